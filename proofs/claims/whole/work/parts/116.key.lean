set_option maxHeartbeats 100000 in
theorem low_n (u : Nat → Int32) : (u (0 : Int32).toNatClampNeg &&& (1 : Int32)) = nI (V u 8 % 2) := by
  apply U_inj
  rw [show (0 : Int32).toNatClampNeg = 0 by decide, u_and1, V_low, U_nI (by have := Nat.mod_lt (U (u 0)) (show 0 < 2 by decide); omega)]
def kE : Nat := (pP + 1) / 4
set_option maxHeartbeats 100000 in
theorem kE_2 : 2 * kE = (pP - 1) / 2 + 1 := by decide +kernel
set_option maxHeartbeats 100000 in
theorem kE_l : kE < 2 ^ 254 := by decide +kernel
set_option maxHeartbeats 100000 in
theorem kE_p : 2 * ((pP - 1) / 2) = pP - 1 := by decide +kernel
set_option maxHeartbeats 100000 in
theorem rt_1 {T y : Nat} (hy : y * y % pP = T % pP) (hT : T % pP ≠ 0) : (T ^ kE % pP) * (T ^ kE % pP) % pP = T % pP := by
  have hyd : ¬ pP ∣ y := by
    intro g
    obtain ⟨q, hq⟩ := g
    rw [hq, Nat.mul_assoc, Nat.mul_mod_right] at hy
    exact hT hy.symm
  have f := fer1 pP_pr hyd
  have e1 : T ^ ((pP - 1) / 2) % pP = 1 := by
    rw [Nat.pow_mod, ← hy, ← Nat.pow_mod, ← Nat.pow_two, ← Nat.pow_mul, kE_p]
    exact f
  rw [← Nat.mul_mod, ← Nat.pow_two, ← Nat.pow_mul, Nat.mul_comm kE 2, kE_2, Nat.pow_succ, Nat.mul_mod, e1, Nat.one_mul, Nat.mod_mod]
set_option maxHeartbeats 100000 in
theorem rt_s {T k : Nat} : (T ^ (kE / 2 ^ (k + 1)) % pP) * (T ^ (kE / 2 ^ (k + 1)) % pP) % pP = T ^ (2 * (kE / 2 ^ (k + 1))) % pP := by
  rw [← Nat.mul_mod, ← Nat.pow_add]
  congr 2
  omega
set_option maxHeartbeats 100000 in
theorem dv2 (k : Nat) : kE / 2 ^ k = 2 * (kE / 2 ^ (k + 1)) + kE / 2 ^ k % 2 := by
  have e : kE / 2 ^ (k + 1) = kE / 2 ^ k / 2 := by rw [Nat.pow_succ, Nat.div_div_eq_div_mul]
  rw [e]
  generalize kE / 2 ^ k = X
  omega
def kQ (h : Nat → Int32) (a n : Nat) (r : Int32 × (Nat → Int32) × (Nat → Int32) × (Nat → Int32) × (Nat → Int32) × (Nat → Int32) × (Nat → Int32)) : Prop :=
  (r.1 = 0 ∧ ∀ x y, ¬ kS h a n x y) ∨ (r.1 = 1 ∧ kS h a n (V r.2.2.2.2.2.1 8) (V r.2.2.2.2.2.2 8))
set_option maxHeartbeats 100000 in
theorem k_322 (fu : Nat) (hfu : 17 ≤ fu) (z one : Nat → Int32) (n1 : Nat) (h : Nat → Int32) (a n : Nat) (u0 u1 u2 u3 u4 u5 : Nat → Int32) (h0 : V u5 8 * V u5 8 % pP ≠ V u1 8 → ∀ x y, ¬ kS h a n x y) (h1 : V u5 8 * V u5 8 % pP = V u1 8 → kS h a n (V u4 8) (V u5 8)) : ok (xb_M_isKey_322 fu z one n1 h u0 u1 u2 u3 u4 u5) (kQ h a n) := by
  unfold xb_M_isKey_322
  refine ok_bd2 (v_M_times_e32 fu hfu z u5 u0 u2) (fun f1 f2 q => ?_)
  replace q : V f2 8 = V u5 8 * V u5 8 % pP := q
  rw [v_M_compare fu (by omega), bd1_q, q]
  refine ok_ite (fun g => ok_some (Or.inr ⟨rfl, h1 ((cmpN_eq _ _).mp g).symm⟩)) (fun g => ok_some (Or.inl ⟨rfl, h0 (fun e => g ((cmpN_eq _ _).mpr e.symm))⟩))
set_option maxHeartbeats 100000 in
theorem k_236 (fu : Nat) (hfu : 17 ≤ fu) (z one : Nat → Int32) (n1 : Nat) (h : Nat → Int32) (a n : Nat) (kd : Int32) (u1 u2 u3 u4 : Nat → Int32) (h3 : V u3 8 = kE) (h1 : V u1 8 < pP)
    (fin : ∀ u0 u5, V u5 8 = V u1 8 ^ kE % pP → ok (if nI (V u5 8 % 2) = (kd &&& (1 : Int32)) then (xb_M_isKey_322 fu z one n1 h u0 u1 u2 u3 u4 u5) else (bd2 (x_M_sub_s1x22e20 fu u5) fun v3 f4 => xb_M_isKey_322 fu z one n1 h u0 u1 u2 u3 u4 f4)) (kQ h a n)) :
    ∀ k m u0 u5, k ≤ 254 → k < m → V u5 8 = V u1 8 ^ (kE / 2 ^ k) % pP → ok (x_M_isKey_236 fu z one n1 h m kd (nI k + (-1)) u0 u1 u2 u3 u4 u5) (kQ h a n) := by
  intro k
  induction k with
  | zero =>
    intro m u0 u5 _ hm hI
    obtain ⟨m, rfl⟩ : ∃ q, m = q + 1 := ⟨m - 1, by omega⟩
    show ok (xb_M_isKey_236 fu z one n1 h (x_M_isKey_236 fu z one n1 h m) kd (nI 0 + (-1)) u0 u1 u2 u3 u4 u5) _
    unfold xb_M_isKey_236
    refine ok_t (by decide) (ok_bnd (ok_bnd ?_))
    rw [low_n]
    rw [Nat.pow_zero, Nat.div_one] at hI
    exact fin u0 u5 hI
  | succ k ih =>
    intro m u0 u5 hk hm hI
    obtain ⟨m, rfl⟩ : ∃ q, m = q + 1 := ⟨m - 1, by omega⟩
    rw [pk_m1]
    show ok (xb_M_isKey_236 fu z one n1 h (x_M_isKey_236 fu z one n1 h m) kd (nI k) u0 u1 u2 u3 u4 u5) _
    unfold xb_M_isKey_236
    refine ok_f (nI_pos (by omega)) ?_
    refine ok_bd2 (v_M_times_e21e31 fu hfu z u0 u5) (fun f5 f6 q => ?_)
    replace q : V f6 8 = V u5 8 * V u5 8 % pP := q
    rw [hI, rt_s] at q
    rw [v_M_bit fu u3 (k := k) (by omega), bd1_q, h3]
    have hd := dv2 k
    have hb : kE / 2 ^ k % 2 = 0 ∨ kE / 2 ^ k % 2 = 1 := by omega
    rcases hb with hb | hb
    · refine ok_f (by rw [hb]; decide) ?_
      unfold xb_M_isKey_286
      refine ok_bnd (ih m f5 f6 (by omega) (by omega) ?_)
      have e : kE / 2 ^ k = 2 * (kE / 2 ^ (k + 1)) := by omega
      rw [q, e]
    · refine ok_t (by rw [hb]; rfl) ?_
      refine ok_bd2 (v_M_times_e21 fu hfu z u1 f5 f6) (fun f8 f9 q2 => ?_)
      replace q2 : V f9 8 = V f6 8 * V u1 8 % pP := q2
      unfold xb_M_isKey_286
      refine ok_bnd (ih m f8 f9 (by omega) (by omega) ?_)
      have e : kE / 2 ^ k = 2 * (kE / 2 ^ (k + 1)) + 1 := by omega
      rw [q2, q, e, Nat.mod_mul_mod, Nat.pow_add (V u1 8) _ 1, Nat.pow_one]
set_option maxHeartbeats 100000 in
theorem kd_2 : (2 : Int32) &&& 1 = nI 0 := by decide
set_option maxHeartbeats 100000 in
theorem kd_3 : (3 : Int32) &&& 1 = nI 1 := by decide
set_option maxHeartbeats 100000 in
theorem fl {p y r c T : Nat} (hp : p % 2 = 1) (h : r + y = p + c * T) (hc : c ≤ 1) (hy : y < p) (hr : r < T) (hpT : p < T) (hy0 : 0 < y) : r = p - y ∧ r < p ∧ r % 2 ≠ y % 2 := by
  rcases c_01 hc with rfl | rfl
  · exact ⟨by omega, by omega, by omega⟩
  · omega
set_option maxHeartbeats 100000 in
theorem sqn {p y : Nat} (hy : y ≤ p) : (p - y) * (p - y) % p = y * y % p := by
  have h : (p - y) * (p - y) + (2 * y) * p = y * y + p * p := by
    obtain ⟨d, rfl⟩ : ∃ d, p = y + d := ⟨p - y, by omega⟩
    rw [show y + d - y = d by omega]
    grind
  have h1 : ((p - y) * (p - y) + (2 * y) * p) % p = (y * y + p * p) % p := by rw [h]
  rw [Nat.add_mul_mod_self_right, Nat.add_mul_mod_self_left] at h1
  exact h1
set_option maxHeartbeats 100000 in
theorem nI_01 {b c : Nat} (hb : b < 2) (hc : c < 2) : nI b = nI c ↔ b = c := nI_eq (by omega) (by omega)
set_option maxHeartbeats 400000 in
theorem k_45 (fu : Nat) (hfu : 300 ≤ fu) (z one : Nat → Int32) (hone : V one 8 = 1) (n1 : Nat) (hn1 : n1 < 2 ^ 31) (h : Nat → Int32) (a n : Nat) (ha : a + n ≤ n1) (kd : Int32) (hkd : kd = h a) (hkind : (n = 33 ∧ (h a = 2 ∨ h a = 3)) ∨ (n = 65 ∧ h a = 4)) (u0 u1 u2 u3 u4 u5 : Nat → Int32) : ok (xb_M_isKey_45 fu z one n1 h (nI a) (nI n) kd u0 u1 u2 u3 u4 u5) (kQ h a n) := by
  unfold xb_M_isKey_45
  rw [nI_1]
  refine ok_bnd (ok_bd1 (v_M_read fu n1 (by omega) hn1 h (a := a + 1) (n := 32) (by omega) (by omega) u4) (fun f2 q2 => ?_))
  rw [v_M_compare_s1x22 fu (by omega), bd1_q, V_22]
  refine ok_ite (fun g => ?_) (fun g => ok_some (Or.inl ⟨rfl, fun x y s => g ((cmpN_lt _ _).mpr (by rw [q2, ← s.2.1]; exact s.2.2.1))⟩))
  have gx := (cmpN_lt _ _).mp g
  refine ok_bd2 (v_M_times_e32 fu (by omega) z f2 u0 u1) (fun f4 f5 q5 => ?_)
  replace q5 : V f5 8 = V f2 8 * V f2 8 % pP := q5
  refine ok_bd2 (v_M_times_e21 fu (by omega) z f2 f4 f5) (fun f6 f7 q7 => ?_)
  replace q7 : V f7 8 = V f5 8 * V f2 8 % pP := q7
  have l7 : V f7 8 < pP := by rw [q7]; exact Nat.mod_lt _ pP_0
  have hz : ∀ j k m r, k + j = 8 → j < m → (∀ i, i < k → r i = if i = 0 then 7 else 0) → ok (x_M_isKey_108 fu z one n1 h m (nI a) (nI n) kd (nI k) f6 f7 r u3 f2 u5) (kQ h a n) := by
    intro j
    induction j with
    | zero =>
      intro k m r hk hm hr
      obtain ⟨m, rfl⟩ : ∃ q, m = q + 1 := ⟨m - 1, by omega⟩
      have e : k = 8 := by omega
      subst e
      show ok (xb_M_isKey_108 fu z one n1 h (x_M_isKey_108 fu z one n1 h m) (nI a) (nI n) kd (nI 8) f6 f7 r u3 f2 u5) _
      unfold xb_M_isKey_108
      refine ok_t (show (8 : Int32) ≤ nI 8 from by decide) ?_
      have hr7 : V r 8 = 7 := by
        have e1 : V r 8 = V r 1 + 2 ^ 32 * V (fun j => r (1 + j)) 7 := V_add r 1 7
        have e2 : V (fun j => r (1 + j)) 7 = 0 := (V_0 _ 7).mpr (fun i hi => by rw [hr (1 + i) (by omega), if_neg (by omega)])
        have e3 : V r 1 = U (r 0) := by
          show 0 + U (r 0) * 2 ^ 0 = _
          omega
        rw [e1, e2, e3, hr 0 (by decide)]
        rfl
      refine ok_bd1 (v_M_plus_e10 fu (by omega) r f7 l7 (by rw [hr7]; exact pP_7)) (fun f1 q1 => ?_)
      rw [hr7, q7, q5] at q1
      have hT0 : V f1 8 ≠ 0 := by rw [q1]; exact cub
      have l1 : V f1 8 < pP := by rw [q1]; exact Nat.mod_lt _ pP_0
      rcases hkind with ⟨hn, hk⟩ | ⟨hn, hk⟩
      · subst hn
        refine ok_f (by decide) ?_
        obtain ⟨cc, f3, e3, hcc, h3⟩ := v_M_add_s1x22 fu (by omega) one u3
        rw [V_22, hone] at h3
        rw [e3, bd2_q]
        have hf3 : V f3 8 = pP + 1 := by
          have := V8_lt f3
          have hp := pP_e
          generalize V f3 8 = A at *
          generalize pP = B at *
          generalize 2 ^ 256 = D at *
          rcases c_01 hcc with rfl | rfl <;> omega
        obtain ⟨f4', e4, h4⟩ := v_M_half fu (by omega) 0 (by decide) f3
        obtain ⟨f5', e5, h5⟩ := v_M_half fu (by omega) 0 (by decide) f4'
        rw [show (0 : Int32) = nI 0 from rfl, e4, bd1_q, e5, bd1_q]
        refine ok_bd1 (v_M_copy fu one u5) (fun f6' q6 => ?_)
        have hE : V f5' 8 = kE := by
          rw [h5, h4, hf3, Nat.zero_mul, Nat.add_zero, Nat.add_zero, Nat.div_div_eq_div_mul]
          rfl
        have h253 : (253 : Int32) = nI 254 + (-1) := by decide
        rw [h253]
        refine k_236 fu (by omega) z one n1 h a 33 kd f1 r f5' f2 hE l1 (fun w0 w5 hw => ?_) 254 fu f6 f6' (Nat.le_refl _) (by omega) ?_
        · have lw : V w5 8 < pP := by rw [hw]; exact Nat.mod_lt _ pP_0
          have hroot : (∃ x y, kS h a 33 x y) → V w5 8 * V w5 8 % pP = V f1 8 := by
            intro ⟨x, y, s⟩
            have ex : x = V f2 8 := by rw [q2]; exact s.2.1
            have hy : y * y % pP = V f1 8 % pP := by
              rw [Nat.mod_eq_of_lt l1, q1, ← ex]
              exact s.2.2.2.2.1
            have := rt_1 hy (by rw [Nat.mod_eq_of_lt l1]; exact hT0)
            rw [hw, this, Nat.mod_eq_of_lt l1]
          have mk : ∀ w, V w 8 < pP → V w 8 * V w 8 % pP = V f1 8 → nI (V w 8 % 2) = h a &&& 1 → kS h a 33 (V f2 8) (V w 8) := fun w k1 k2 k3 => ⟨Or.inl ⟨rfl, hk⟩, q2, gx, k1, by rw [k2, q1], fun q => absurd q (by decide), fun _ => k3⟩
          rw [hkd]
          refine ok_ite (fun gp => ?_) (fun gp => ?_)
          · exact k_322 fu (by omega) z one n1 h a 33 w0 f1 r f5' f2 w5 (fun e x y s => e (hroot ⟨x, y, s⟩)) (fun e => mk w5 lw e gp)
          · obtain ⟨c4, f4'', e4', hc4, hs4⟩ := v_M_sub_s1x22e20 fu (by omega) w5
            rw [e4', bd2_q]
            rw [V_22] at hs4
            rcases Nat.eq_zero_or_pos (V w5 8) with g0 | g0
            · refine k_322 fu (by omega) z one n1 h a 33 w0 f1 r f5' f2 f4'' (fun e x y s => ?_) (fun e => ?_)
              · have := hroot ⟨x, y, s⟩
                rw [g0] at this
                exact hT0 this.symm
              · exfalso
                rw [g0, Nat.add_zero] at hs4
                have hp := pP_T
                have h8 := V8_lt f4''
                have e9 : V f4'' 8 = pP := by
                  generalize V f4'' 8 = A at *
                  generalize pP = B at *
                  generalize 2 ^ 256 = D at *
                  rcases c_01 hc4 with rfl | rfl <;> omega
                rw [e9, Nat.mul_mod_right] at e
                exact hT0 e.symm
            · obtain ⟨k1, k2, k3⟩ := fl pP_o hs4 hc4 lw (V8_lt f4'') pP_T g0
              have ksq : V f4'' 8 * V f4'' 8 % pP = V w5 8 * V w5 8 % pP := by rw [k1]; exact sqn (Nat.le_of_lt lw)
              refine k_322 fu (by omega) z one n1 h a 33 w0 f1 r f5' f2 f4'' (fun e x y s => e (by rw [ksq]; exact hroot ⟨x, y, s⟩)) (fun e => mk f4'' k2 e ?_)
              rcases hk with hk | hk
              · rw [hk, kd_2] at gp ⊢
                rw [nI_01 (Nat.mod_lt _ (by decide)) (by decide)] at gp ⊢
                generalize V f4'' 8 = A at *
                generalize V w5 8 = B at *
                omega
              · rw [hk, kd_3] at gp ⊢
                rw [nI_01 (Nat.mod_lt _ (by decide)) (by decide)] at gp ⊢
                generalize V f4'' 8 = A at *
                generalize V w5 8 = B at *
                omega
        · rw [V_c q6, hone, Nat.div_eq_of_lt kE_l, Nat.pow_zero, Nat.mod_eq_of_lt (Nat.lt_trans (by decide) pP_7)]
      · subst hn
        refine ok_t (by decide) ?_
        rw [show nI a + (33 : Int32) = nI (a + 33) from nI_add a 33]
        refine ok_bnd (ok_bd1 (v_M_read fu n1 (by omega) hn1 h (a := a + 33) (n := 32) (by omega) (by omega) u5) (fun f8 q8 => ?_))
        rw [v_M_compare_s1x22 fu (by omega), bd1_q, V_22]
        refine ok_ite (fun g8 => ?_) (fun g8 => ok_some (Or.inl ⟨rfl, fun x y s => g8 ((cmpN_lt _ _).mpr (by rw [q8, ← s.2.2.2.2.2.1 rfl]; exact s.2.2.2.1))⟩))
        have gy := (cmpN_lt _ _).mp g8
        refine k_322 fu (by omega) z one n1 h a 65 f6 f1 r u3 f2 f8 (fun e x y s => e ?_) (fun e => ⟨Or.inr ⟨rfl, hk⟩, q2, gx, gy, by rw [e, q1], fun _ => q8, fun q => absurd q (by decide)⟩)
        have ex : x = V f2 8 := by rw [q2]; exact s.2.1
        have ey : y = V f8 8 := by rw [q8]; exact s.2.2.2.2.2.1 rfl
        rw [← ey, q1, ← ex]
        exact s.2.2.2.2.1
    | succ j ih =>
      intro k m r hk hm hr
      obtain ⟨m, rfl⟩ : ∃ q, m = q + 1 := ⟨m - 1, by omega⟩
      show ok (xb_M_isKey_108 fu z one n1 h (x_M_isKey_108 fu z one n1 h m) (nI a) (nI n) kd (nI k) f6 f7 r u3 f2 u5) _
      unfold xb_M_isKey_108
      have key : ∀ y0 : Int32, y0 = (if k = 0 then 7 else 0) → ok (xb_M_isKey_132 fu z one n1 h (x_M_isKey_108 fu z one n1 h m) (nI a) (nI n) kd (nI k) y0 (nI k) f6 f7 r u3 f2 u5) (kQ h a n) := by
        intro y0 hy0
        unfold xb_M_isKey_132
        refine ok_gd (inb_nI (by omega) (by decide)) (ok_bnd (ok_bnd ?_))
        rw [nI_clamp (n := k) (by omega), nI_1]
        refine ih (k + 1) m _ (by omega) (by omega) (fun i hi => ?_)
        by_cases c : i = k
        · rw [c, pk_us, hy0]
        · rw [pk_un c]; exact hr i (by omega)
      refine ok_f (show ¬ (8 : Int32) ≤ nI k from nI_ge (b := 8) (by omega) (by decide)) ?_
      by_cases c : k = 0
      · exact ok_t (by rw [c]; exact nI_0) (key _ (by rw [if_pos c]))
      · exact ok_f (nI_ne0 (by omega) (by omega)) (key _ (by rw [if_neg c]))
  exact hz 8 0 fu u2 (by omega) (by omega) (fun i hi => absurd hi (Nat.not_lt_zero _))
set_option maxHeartbeats 100000 in
theorem v_M_isKey (fu : Nat) (hfu : 300 ≤ fu) (z one : Nat → Int32) (hone : V one 8 = 1) (n1 : Nat) (hn1 : n1 < 2 ^ 31) (h : Nat → Int32) {a n : Nat} (ha : a + n ≤ n1) (u0 u1 u2 u3 u4 u5 : Nat → Int32) : ok (x_M_isKey fu z one n1 h (nI a) (nI n) u0 u1 u2 u3 u4 u5) (kQ h a n) := by
  have no31 : ∀ kd : Int32, kd = h a → ¬ (n = 33 ∧ (h a = 2 ∨ h a = 3)) → ok (xb_M_isKey_31 fu z one n1 h (nI a) (nI n) kd u0 u1 u2 u3 u4 u5) (kQ h a n) := by
    intro kd hkd hno
    unfold xb_M_isKey_31
    by_cases h65 : n = 65
    · refine ok_t (show nI n = (65 : Int32) from by rw [h65]; rfl) ?_
      refine ok_ite (fun g => ?_) (fun g => ok_some (Or.inl ⟨rfl, fun x y s => ?_⟩))
      · exact k_45 fu hfu z one hone n1 hn1 h a n ha kd hkd (Or.inr ⟨h65, by rw [← hkd]; exact g⟩) u0 u1 u2 u3 u4 u5
      · rcases s.1 with q | q
        · exact hno q
        · exact g (by rw [hkd]; exact q.2)
    · refine ok_f (fun q => h65 ((nI_eq (b := 65) (by omega) (by decide)).mp q)) (ok_some (Or.inl ⟨rfl, fun x y s => ?_⟩))
      rcases s.1 with q | q
      · exact hno q
      · exact h65 q.1
  unfold x_M_isKey
  by_cases h0 : n = 0
  · subst h0
    refine ok_t (show nI 0 ≤ 0 from by decide) ?_
    unfold xb_M_isKey_11
    refine ok_f (by decide) ?_
    unfold xb_M_isKey_31
    refine ok_f (by decide) (ok_some (Or.inl ⟨rfl, fun x y s => ?_⟩))
    rcases s.1 with q | q
    · exact absurd q.1 (by decide)
    · exact absurd q.1 (by decide)
  · refine ok_f (nI_nle (by omega) (by omega)) (ok_gd (inb_nI (by omega) (by omega)) (ok_bnd ?_))
    rw [nI_clamp (n := a) (by omega)]
    unfold xb_M_isKey_11
    by_cases h33 : n = 33
    · refine ok_t (show nI n = (33 : Int32) from by rw [h33]; rfl) ?_
      refine ok_ite (fun g => ?_) (fun g => ?_)
      · exact k_45 fu hfu z one hone n1 hn1 h a n ha _ rfl (Or.inl ⟨h33, Or.inl g⟩) u0 u1 u2 u3 u4 u5
      · refine ok_ite (fun g2 => ?_) (fun g2 => ?_)
        · exact k_45 fu hfu z one hone n1 hn1 h a n ha _ rfl (Or.inl ⟨h33, Or.inr g2⟩) u0 u1 u2 u3 u4 u5
        · exact no31 _ rfl (fun q => by
            rcases q.2 with q | q
            · exact g q
            · exact g2 q)
    · refine ok_f (fun q => h33 ((nI_eq (b := 33) (by omega) (by decide)).mp q)) ?_
      exact no31 _ rfl (fun q => h33 q.1)
