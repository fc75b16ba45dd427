set_option maxHeartbeats 100000 in
theorem j_other1 {F : Type} [Lean.Grind.Field F] [DecidableEq F] {c : Int → F} (hc : cH pP c) (fu : Nat) (hfu : 2 ^ 257 ≤ fu) (h1 h2 : Nat → Int32) (u0 u1 u2 u3 u4 u5 u6 u7 u8 u9 u10 u11 : Nat → Int32) (hA : V h1 8 < pP) (hB : V h2 8 < pP) (g8 : V u8 8 < pP) (g9 : V u9 8 < pP) (hz : u0 8 = 0 ∨ u0 8 = 1)
    (hR : onC (c 7) (pt c u0 u8 u9)) (hQ : onC (c 7) (some (c ((V h1 8 : Nat) : Int), c ((V h2 8 : Nat) : Int)))) :
    ok (x_M_other1 fu h1 h2 u0 u1 u2 u3 u4 u5 u6 u7 u8 u9 u10 u11) (jQ c u0 (ea (pt c u0 u8 u9) (some (c ((V h1 8 : Nat) : Int), c ((V h2 8 : Nat) : Int))))) := by
  obtain ⟨h9, h17⟩ := f257 hfu
  have fin : ∀ y0 : Int32, (y0 ≠ 0 → u0 8 = 0 ∧ V u8 8 = V h1 8 ∧ V u9 8 = V h2 8) → (y0 = 0 → u0 8 = 0 → ¬ (V u8 8 = V h1 8 ∧ V u9 8 = V h2 8)) → ok (xb_M_other1_37 fu h1 h2 y0 u0 u1 u2 u3 u4 u5 u6 u7 u8 u9 u10 u11) (jQ c u0 (ea (pt c u0 u8 u9) (some (c ((V h1 8 : Nat) : Int), c ((V h2 8 : Nat) : Int))))) := by
    intro y0 hs hd
    unfold xb_M_other1_37
    exact ok_bd12 (j_join hc fu hfu h1 h2 y0 u0 u1 u2 u3 u4 u5 u6 u7 u8 u9 u10 u11 hA hB g8 g9 hz hR hQ hs hd) (fun _ _ _ _ _ _ _ _ _ _ _ _ q => ok_some q)
  unfold x_M_other1
  refine ok_ite (fun h => ?_) (fun h => ?_)
  · rw [v_M_compare fu h9 u8 h1, bd1_q]
    refine ok_ite (fun hx => ?_) (fun hx => ?_)
    · rw [v_M_compare fu h9 u9 h2, bd1_q]
      have hx := (cmpN_eq _ _).mp hx
      refine ok_ite (fun hy => ?_) (fun hy => ?_)
      · have hy := (cmpN_eq _ _).mp hy
        exact fin 1 (fun _ => ⟨h, hx, hy⟩) (fun g => absurd g one_ne)
      · unfold xb_M_other1_36
        exact fin 0 (fun g => absurd rfl g) (fun _ _ g => hy ((cmpN_eq _ _).mpr g.2))
    · unfold xb_M_other1_36
      exact fin 0 (fun g => absurd rfl g) (fun _ _ g => hx ((cmpN_eq _ _).mpr g.1))
  · unfold xb_M_other1_36
    exact fin 0 (fun g => absurd rfl g) (fun _ g => absurd g h)
set_option maxHeartbeats 100000 in
theorem j_other1_s1x24s2x25 {F : Type} [Lean.Grind.Field F] [DecidableEq F] {c : Int → F} (hc : cH pP c) (fu : Nat) (hfu : 2 ^ 257 ≤ fu) (u0 u1 u2 u3 u4 u5 u6 u7 u8 u9 u10 u11 : Nat → Int32) (g8 : V u8 8 < pP) (g9 : V u9 8 < pP) (hz : u0 8 = 0 ∨ u0 8 = 1)
    (hR : onC (c 7) (pt c u0 u8 u9)) (hQ : onC (c 7) (some (c ((V k24 8 : Nat) : Int), c ((V k25 8 : Nat) : Int)))) :
    ok (x_M_other1_s1x24s2x25 fu  u0 u1 u2 u3 u4 u5 u6 u7 u8 u9 u10 u11) (jQ c u0 (ea (pt c u0 u8 u9) (some (c ((V k24 8 : Nat) : Int), c ((V k25 8 : Nat) : Int))))) := by
  obtain ⟨h9, h17⟩ := f257 hfu
  have fin : ∀ y0 : Int32, (y0 ≠ 0 → u0 8 = 0 ∧ V u8 8 = V k24 8 ∧ V u9 8 = V k25 8) → (y0 = 0 → u0 8 = 0 → ¬ (V u8 8 = V k24 8 ∧ V u9 8 = V k25 8)) → ok (xb_M_other1_s1x24s2x25_37 fu  y0 u0 u1 u2 u3 u4 u5 u6 u7 u8 u9 u10 u11) (jQ c u0 (ea (pt c u0 u8 u9) (some (c ((V k24 8 : Nat) : Int), c ((V k25 8 : Nat) : Int))))) := by
    intro y0 hs hd
    unfold xb_M_other1_s1x24s2x25_37
    exact ok_bd12 (j_join_s1x24s2x25 hc fu hfu  y0 u0 u1 u2 u3 u4 u5 u6 u7 u8 u9 u10 u11 g8 g9 hz hR hQ hs hd) (fun _ _ _ _ _ _ _ _ _ _ _ _ q => ok_some q)
  unfold x_M_other1_s1x24s2x25
  refine ok_ite (fun h => ?_) (fun h => ?_)
  · rw [v_M_compare_s1x24 fu h9 u8, bd1_q]
    refine ok_ite (fun hx => ?_) (fun hx => ?_)
    · rw [v_M_compare_s1x25 fu h9 u9, bd1_q]
      have hx := (cmpN_eq _ _).mp hx
      refine ok_ite (fun hy => ?_) (fun hy => ?_)
      · have hy := (cmpN_eq _ _).mp hy
        exact fin 1 (fun _ => ⟨h, hx, hy⟩) (fun g => absurd g one_ne)
      · unfold xb_M_other1_s1x24s2x25_36
        exact fin 0 (fun g => absurd rfl g) (fun _ _ g => hy ((cmpN_eq _ _).mpr g.2))
    · unfold xb_M_other1_s1x24s2x25_36
      exact fin 0 (fun g => absurd rfl g) (fun _ _ g => hx ((cmpN_eq _ _).mpr g.1))
  · unfold xb_M_other1_s1x24s2x25_36
    exact fin 0 (fun g => absurd rfl g) (fun _ g => absurd g h)
set_option maxHeartbeats 400000 in
theorem j_dbl {F : Type} [Lean.Grind.Field F] [DecidableEq F] {c : Int → F} (hc : cH pP c) (fu : Nat) (hfu : 2 ^ 257 ≤ fu) (u0 u1 u2 u3 u4 u5 u6 u7 u8 u9 u10 u11 : Nat → Int32) (g8 : V u8 8 < pP) (g9 : V u9 8 < pP) (hz : u0 8 = 0 ∨ u0 8 = 1) :
    ok (x_M_join_f1rxf2ry fu (1 : Int32) u0 u1 u2 u3 u4 u5 u6 u7 u8 u9 u10 u11) (jQ c u0 (ea (pt c u0 u8 u9) (pt c u0 u8 u9))) := by
  obtain ⟨h9, h17⟩ := f257 hfu
  unfold x_M_join_f1rxf2ry
  rcases hz with hz | hz
  · rw [if_pos hz, if_neg one_ne]
    have ep : pt c u0 u8 u9 = some (c ((V u8 8 : Nat) : Int), c ((V u9 8 : Nat) : Int)) := if_pos hz
    rw [ep]
    unfold xb_M_join_f1rxf2ry_49 xb_M_join_f1rxf2ry_54
    rw [if_neg one_ne, if_neg one_ne]
    unfold xb_M_join_f1rxf2ry_76
    rw [v_M_isZero fu h9, bd1_q]
    by_cases h0 : V u9 8 = 0
    · rw [if_pos h0, if_neg one_ne]
      have hn : ea (some (c ((V u8 8 : Nat) : Int), c ((V u9 8 : Nat) : Int))) (some (c ((V u8 8 : Nat) : Int), c ((V u9 8 : Nat) : Int))) = none := by
        refine ea_0 ⟨rfl, ?_⟩
        have k0 : c ((0 : Nat) : Int) = 0 := c_0 hc
        rw [h0, k0]
        grind
      rw [hn]
      unfold xb_M_join_f1rxf2ry_86
      refine ok_bnd (ok_some ⟨fun j hj => pk_un hj, Or.inr (show upd u0 8 (1 : Int32) 8 = 1 from pk_us), g8, g9, ?_⟩)
      show (if upd u0 8 1 8 = 0 then _ else none) = none
      rw [pk_us, if_neg one_ne]
    · rw [if_neg h0, if_pos rfl]
      unfold xb_M_join_f1rxf2ry_92
      rw [if_neg one_ne]
      refine ok_bd2 (v_M_times_e32 fu h17 u0 u8 u3 u5) (fun f3 f4 q4 => ?_)
      replace q4 := cvt hc q4
      refine ok_bd1 (v_M_plus_e21 fu h9 f4 u6 q4.2 q4.2) (fun f5 q5 => ?_)
      replace q5 := cvp hc q5
      refine ok_bd1 (v_M_plus_e10 fu h9 f5 f4 q4.2 q5.2) (fun f6 q6 => ?_)
      replace q6 := cvp hc q6
      refine ok_bd1 (v_M_plus_e21 fu h9 u9 f5 g9 g9) (fun f7 q7 => ?_)
      replace q7 := cvp hc q7
      have hy0 : c ((V u9 8 : Nat) : Int) ≠ 0 := c_ne0 hc g9 (Nat.pos_of_ne_zero h0)
      have hk2 := k_2 hc
      have hyy : c ((V u9 8 : Nat) : Int) + c ((V u9 8 : Nat) : Int) ≠ 0 := by
        intro g
        have : 2 * c ((V u9 8 : Nat) : Int) = 0 := by grind
        grind
      have h70 : 1 ≤ V f7 8 := Nat.pos_of_ne_zero (fun g => by
        have k := q7.1
        rw [g] at k
        have k0 : c ((0 : Nat) : Int) = 0 := c_0 hc
        rw [k0] at k
        exact hyy k.symm)
      have hl := dvc (n := c ((V u8 8 : Nat) : Int) * c ((V u8 8 : Nat) : Int) + c ((V u8 8 : Nat) : Int) * c ((V u8 8 : Nat) : Int) + c ((V u8 8 : Nat) : Int) * c ((V u8 8 : Nat) : Int)) hyy
      rw [ea_f2 hyy hl]
      generalize (c ((V u8 8 : Nat) : Int) * c ((V u8 8 : Nat) : Int) + c ((V u8 8 : Nat) : Int) * c ((V u8 8 : Nat) : Int) + c ((V u8 8 : Nat) : Int) * c ((V u8 8 : Nat) : Int)) / (c ((V u9 8 : Nat) : Int) + c ((V u9 8 : Nat) : Int)) = l at hl ⊢
      have hl2 : l * c ((V f7 8 : Nat) : Int) = c ((V f6 8 : Nat) : Int) := by
        rw [q7.1, hl, q6.1, q5.1, q4.1]
        grind
      unfold xb_M_join_f1rxf2ry_185
      refine ok_bd5 (v_M_inverse_s3x22 fu hfu u0 f7 u1 u2 u10 u11 u7 h70 (pr_c pP_pr h70 q7.2)) (fun e1 e2 e3 e4 e5 r5 => ?_)
      have i5 := c_iv hc r5
      refine ok_bd2 (v_M_times fu h17 u0 f6 e5 f3 u4) (fun e6 e7 r7 => ?_)
      replace r7 := cvt hc r7
      refine ok_bd2 (v_M_times_e32 fu h17 u0 e7 e6 f6) (fun e8 e9 r9 => ?_)
      replace r9 := cvt hc r9
      refine ok_bd1 (v_M_minus_e10 fu h9 u8 e9 r9.2 g8) (fun e10 r10 => ?_)
      replace r10 := cvm hc g8 r10
      rw [if_neg one_ne]
      unfold xb_M_join_f1rxf2ry_268
      refine ok_bd1 (v_M_minus_e10 fu h9 u8 e10 r10.2 g8) (fun e11 r11 => ?_)
      replace r11 := cvm hc g8 r11
      refine ok_bd1 (v_M_minus fu h9 u8 e11 f7 g8 r11.2) (fun e12 r12 => ?_)
      replace r12 := cvm hc r11.2 r12
      refine ok_bd2 (v_M_times_e21 fu h17 u0 e7 e8 e12) (fun e13 e14 r14 => ?_)
      replace r14 := cvt hc r14
      refine ok_bd1 (v_M_minus_e20 fu h9 e14 u9 r14.2 g9) (fun e15 r15 => ?_)
      replace r15 := cvm hc g9 r15
      refine ok_bd1 (v_M_copy fu e11 u8) (fun e16 r16 => ?_)
      refine ok_some ⟨fun j _ => rfl, Or.inl hz, ?_, r15.2, ?_⟩
      · show V e16 8 < pP
        rw [V_c r16]; exact r11.2
      · show (if u0 8 = 0 then some (c ((V e16 8 : Nat) : Int), c ((V e15 8 : Nat) : Int)) else none) = _
        rw [if_pos hz, V_c r16]
        have el := jm i5 r7.1 hl2
        have s1 := r9.1
        have s2 := r10.1
        have s11 := r11.1
        have s3 := r12.1
        have s4 := r14.1
        have s5 := r15.1
        rw [el] at s1 s4
        rw [s1] at s2
        rw [s2] at s11
        rw [s11] at s3 ⊢
        rw [s3] at s4
        rw [s4] at s5
        rw [s5]
        congr 2
        grind
  · have hz0 : ¬ u0 8 = 0 := by rw [hz]; exact one_ne
    rw [if_neg hz0, if_neg one_ne]
    have ep : pt c u0 u8 u9 = none := if_neg hz0
    rw [ep, ea_n0]
    exact ok_some ⟨fun j hj => rfl, Or.inr hz, g8, g9, ep⟩
-- one bit
set_option maxHeartbeats 100000 in
theorem V_word (h : Nat → Int32) (q k : Nat) : V h (q + 1 + k) / 2 ^ (32 * q) % 2 ^ 32 = U (h q) := by
  rw [V_add, V_s]
  have h1 := V_lt h q
  have h2 := U_lt (h q)
  have h3 := p32_s q
  rw [h3, Nat.mul_assoc]
  generalize V (fun j => h (q + 1 + j)) k = R
  generalize V h q = a at *
  generalize U (h q) = b at *
  have h4 : a + b * 2 ^ (32 * q) + 2 ^ 32 * (2 ^ (32 * q) * R) = a + 2 ^ (32 * q) * (b + 2 ^ 32 * R) := by
    rw [Nat.mul_add, Nat.mul_comm b, Nat.mul_left_comm (2 ^ 32), Nat.add_assoc]
  rw [h4, Nat.add_mul_div_left _ _ (Nat.two_pow_pos _), Nat.div_eq_of_lt h1, Nat.zero_add, Nat.add_mul_mod_self_left, Nat.mod_eq_of_lt h2]
set_option maxHeartbeats 100000 in
theorem V_bit (h : Nat → Int32) {q r : Nat} (hq : q < 8) (hr : r < 32) : U (h q) / 2 ^ r % 2 = V h 8 / 2 ^ (32 * q + r) % 2 := by
  have h1 := V_word h q (7 - q)
  rw [show q + 1 + (7 - q) = 8 by omega] at h1
  rw [← h1, Nat.pow_add, ← Nat.div_div_eq_div_mul]
  generalize V h 8 / 2 ^ (32 * q) = X
  have h2 : X = 2 ^ 32 * (X / 2 ^ 32) + X % 2 ^ 32 := (Nat.div_add_mod X (2 ^ 32)).symm
  have h3 : 2 ^ 32 = 2 ^ r * (2 * 2 ^ (31 - r)) := by
    rw [← Nat.pow_succ', ← Nat.pow_add]
    congr 1
    omega
  have h4 : X / 2 ^ r = 2 * (2 ^ (31 - r) * (X / 2 ^ 32)) + X % 2 ^ 32 / 2 ^ r := by
    conv => lhs; rw [h2]
    have : 2 ^ 32 * (X / 2 ^ 32) = 2 ^ r * (2 * (2 ^ (31 - r) * (X / 2 ^ 32))) := by
      rw [← Nat.mul_assoc 2, ← Nat.mul_assoc (2 ^ r), ← h3]
    rw [this, Nat.mul_add_div (Nat.two_pow_pos _)]
  rw [h4]
  omega
set_option maxHeartbeats 100000 in
theorem sh_31 : ∀ r, r < 32 → (((nI r).toUInt32 &&& Int32.toUInt32 31).toBitVec % 32).toNat = r := by decide
set_option maxHeartbeats 100000 in
theorem u_bit (x : Int32) {r : Nat} (hr : r < 32) : ((x.toUInt32 >>> ((nI r).toUInt32 &&& Int32.toUInt32 31)).toInt32 &&& (1 : Int32)) = nI (U x / 2 ^ r % 2) := by
  apply U_inj
  rw [u_and1, U_nI (by omega)]
  have h := pk_ushr x (nI r) r (sh_31 r hr)
  show (x.toUInt32 >>> ((nI r).toUInt32 &&& Int32.toUInt32 31)).toInt32.toBitVec.toNat % 2 = _
  rw [h]
  rfl
set_option maxHeartbeats 100000 in
theorem v_M_bit (fu : Nat) (h0 : Nat → Int32) {k : Nat} (hk : k < 256) : x_M_bit fu h0 (nI k) = some (nI (V h0 8 / 2 ^ k % 2)) := by
  unfold x_M_bit
  have e1 : nI k / (32 : Int32) = nI (k / 32) := pk_div (d := 32) (by omega) (by decide) (by decide)
  have e2 : nI k - nI k / (32 : Int32) * (32 : Int32) = nI (k % 32) := pk_rem (d := 32) (by omega) (by decide) (by decide)
  rw [bnd_q, e2, e1, gd_t (inb_nI (by omega) (by decide)), bnd_q, bnd_q, bnd_q, nI_clamp (by omega), u_bit _ (by omega), V_bit h0 (q := k / 32) (r := k % 32) (by omega) (by omega), show 32 * (k / 32) + k % 32 = k by omega]
-- products modulo n
set_option maxHeartbeats 100000 in
theorem top31 (x : Int32) : (x.toUInt32 >>> ((31 : Int32).toUInt32 &&& Int32.toUInt32 31)).toInt32 = nI (U x / 2 ^ 31) := by
  apply U_inj
  have h := pk_ushr x 31 31 (by decide)
  have h2 := U_lt x
  rw [U_nI (by omega)]
  exact h
set_option maxHeartbeats 100000 in
theorem V_top7 (h : Nat → Int32) : U (h 7) / 2 ^ 31 = V h 8 / 2 ^ 255 := by
  have h1 : V h 8 = V h 7 + U (h 7) * 2 ^ (32 * 7) := V_s h 7
  have h2 := V_lt h 7
  rw [h1]
  generalize V h 7 = a at *
  generalize U (h 7) = b at *
  omega
set_option maxHeartbeats 100000 in
theorem u_or1 {x y : Int32} (hx : U x % 2 = 0) (hy : U y ≤ 1) : U (x ||| y) = U x + U y := by
  have h : U (x ||| y) = U x ||| U y := by
    unfold U
    rw [Int32.toBitVec_or, BitVec.toNat_or]
  rw [h]
  have h2 : U x = 2 ^ 1 * (U x / 2) := by omega
  have h3 : U y < 2 ^ 1 := by omega
  rw [h2, ← Nat.two_pow_add_eq_or_of_lt h3, ← h2]
set_option maxHeartbeats 100000 in
theorem V_upd0 (h : Nat → Int32) (x : Int32) : V (upd h 0 x) 8 + U (h 0) = V h 8 + U x := by
  have e1 : V h 8 = V h 1 + 2 ^ 32 * V (fun j => h (1 + j)) 7 := V_add h 1 7
  have e2 : V (upd h 0 x) 8 = V (upd h 0 x) 1 + 2 ^ 32 * V (fun j => upd h 0 x (1 + j)) 7 := V_add _ 1 7
  have e3 : V (fun j => upd h 0 x (1 + j)) 7 = V (fun j => h (1 + j)) 7 := V_c (fun j hj => pk_un (by omega))
  have e4 : V h 1 = U (h 0) := by
    show 0 + U (h 0) * 2 ^ 0 = _
    omega
  have e5 : V (upd h 0 x) 1 = U x := by
    show 0 + U (upd h 0 x 0) * 2 ^ 0 = _
    rw [pk_us]
    omega
  rw [e1, e2, e3, e4, e5]
  omega
set_option maxHeartbeats 100000 in
theorem tn_1 {R b N T s c d X : Nat} (hN : N < T) (hT : T < 2 * N) (hR : R < N) (hb : b ≤ 1) (h1 : s + c * T = R + R) (hc : c ≤ 1) (hX : X = s + b) (hs : s < T) (hX2 : X < T) (ho : c = 1 ∨ N ≤ X) {r : Nat} (hr : r < T) (hd : d ≤ 1) (h2 : r + N = X + d * T) : r = (2 * R + b) % N := by
  have e : r + N = 2 * R + b := by
    rcases c_01 hc with rfl | rfl <;> rcases c_01 hd with rfl | rfl <;> omega
  rw [← e, Nat.add_mod_right, Nat.mod_eq_of_lt (by omega)]
set_option maxHeartbeats 100000 in
theorem tn_2 {R b N T s c X : Nat} (hR : R < N) (h1 : s + c * T = R + R) (hX : X = s + b) (hc : c = 0) (hX2 : X < N) : X = (2 * R + b) % N := by
  subst hc
  rw [Nat.mod_eq_of_lt (by omega)]
  omega
set_option maxHeartbeats 100000 in
theorem nN_2 : 2 ^ 256 < 2 * nN := by decide +kernel
set_option maxHeartbeats 100000 in
theorem tn_top {R T s c : Nat} (h1 : s + c * T = R + R) (hs : s < T) (hc : c ≤ 1) (hT : T = 2 * 2 ^ 255) : R / 2 ^ 255 = c := by
  rcases c_01 hc with rfl | rfl <;> omega
set_option maxHeartbeats 100000 in
theorem V16_bit (h : Nat → Int32) {q r : Nat} (hq : q < 16) (hr : r < 32) : U (h q) / 2 ^ r % 2 = V h 16 / 2 ^ (32 * q + r) % 2 := by
  have h1 := V_word h q (15 - q)
  rw [show q + 1 + (15 - q) = 16 by omega] at h1
  rw [← h1, Nat.pow_add, ← Nat.div_div_eq_div_mul]
  generalize V h 16 / 2 ^ (32 * q) = X
  have h2 : X = 2 ^ 32 * (X / 2 ^ 32) + X % 2 ^ 32 := (Nat.div_add_mod X (2 ^ 32)).symm
  have h3 : 2 ^ 32 = 2 ^ r * (2 * 2 ^ (31 - r)) := by
    rw [← Nat.pow_succ', ← Nat.pow_add]
    congr 1
    omega
  have h4 : X / 2 ^ r = 2 * (2 ^ (31 - r) * (X / 2 ^ 32)) + X % 2 ^ 32 / 2 ^ r := by
    conv => lhs; rw [h2]
    have : 2 ^ 32 * (X / 2 ^ 32) = 2 ^ r * (2 * (2 ^ (31 - r) * (X / 2 ^ 32))) := by
      rw [← Nat.mul_assoc 2, ← Nat.mul_assoc (2 ^ r), ← h3]
    rw [this, Nat.mul_add_div (Nat.two_pow_pos _)]
  rw [h4]
  omega
set_option maxHeartbeats 100000 in
theorem tn_s {M N k : Nat} : (2 * (M / 2 ^ (k + 1) % N) + M / 2 ^ k % 2) % N = M / 2 ^ k % N := by
  have e : M / 2 ^ (k + 1) = M / 2 ^ k / 2 := by rw [Nat.pow_succ, Nat.div_div_eq_div_mul]
  rw [e]
  generalize M / 2 ^ k = X
  have e2 : X = 2 * (X / 2) + X % 2 := by omega
  conv => rhs; rw [e2]
  rw [Nat.add_mod, Nat.mul_mod, Nat.mod_mod, ← Nat.mul_mod, ← Nat.add_mod]
set_option maxHeartbeats 100000 in
theorem l_M_timesN_35 (fu : Nat) (h9 : 9 ≤ fu) (z : Nat → Int32) (h2 h3 : Nat → Int32) (f u2 : Nat → Int32) : ∀ k n u0, k ≤ 512 → k < n → V u0 8 = V f 16 / 2 ^ k % nN → ok (x_M_timesN_35 fu z h2 h3 n (nI k + (-1)) u0 f u2) (fun r => V r.2.2 8 = V f 16 % nN) := by
  intro k
  induction k with
  | zero =>
    intro n u0 _ hn hI
    obtain ⟨n, rfl⟩ : ∃ m, n = m + 1 := ⟨n - 1, by omega⟩
    show ok (xb_M_timesN_35 fu z h2 h3 (x_M_timesN_35 fu z h2 h3 n) (nI 0 + (-1)) u0 f u2) _
    unfold xb_M_timesN_35
    refine ok_t (by decide) ?_
    refine ok_bd1 (v_M_copy fu u0 u2) (fun f1 q1 => ok_some ?_)
    show V f1 8 = _
    rw [V_c q1, hI, Nat.pow_zero, Nat.div_one]
  | succ k ih =>
    intro n u0 hk hn hI
    obtain ⟨n, rfl⟩ : ∃ m, n = m + 1 := ⟨n - 1, by omega⟩
    rw [pk_m1]
    show ok (xb_M_timesN_35 fu z h2 h3 (x_M_timesN_35 fu z h2 h3 n) (nI k) u0 f u2) _
    unfold xb_M_timesN_35
    have e1 : nI k / (32 : Int32) = nI (k / 32) := pk_div (d := 32) (by omega) (by decide) (by decide)
    have e2 : nI k - nI k / (32 : Int32) * (32 : Int32) = nI (k % 32) := pk_rem (d := 32) (by omega) (by decide) (by decide)
    have hR : V u0 8 < nN := by rw [hI]; exact Nat.mod_lt _ (Nat.lt_trans (by decide) nN_pr.1)
    obtain ⟨c, s, es, hc, hs⟩ := v_M_add_e10e20 fu h9 u0
    have hs8 := V8_lt s
    have hcT := tn_top hs hs8 hc (by decide)
    refine ok_f (nI_pos (by omega)) (ok_bnd (ok_bnd ?_))
    rw [es, bd2_q, show (7 : Int32).toNatClampNeg = 7 by decide, show (0 : Int32).toNatClampNeg = 0 by decide, top31, V_top7, hcT]
    rw [e2, e1]
    refine ok_bnd (ok_bnd (ok_gd (inb_nI (by omega) (by decide)) (ok_bnd (ok_bnd (ok_bnd (ok_bnd ?_))))))
    rw [nI_clamp (n := k / 32) (by omega), u_bit _ (by omega), V16_bit f (q := k / 32) (r := k % 32) (by omega) (by omega), show 32 * (k / 32) + k % 32 = k by omega]
    have hb : V f 16 / 2 ^ k % 2 ≤ 1 := by omega
    have hev : U (s 0) % 2 = 0 := by
      rw [← V_low]
      generalize V s 8 = a at *
      generalize V u0 8 = b at *
      rcases c_01 hc with rfl | rfl <;> omega
    have hX := V_upd0 s (s 0 ||| nI (V f 16 / 2 ^ k % 2))
    rw [u_or1 hev (by rw [U_nI (by omega)]; exact hb), U_nI (by omega)] at hX
    have hX2 : V (upd s 0 (s 0 ||| nI (V f 16 / 2 ^ k % 2))) 8 = V s 8 + V f 16 / 2 ^ k % 2 := by
      generalize U (s 0) = q at *
      omega
    generalize upd s 0 (s 0 ||| nI (V f 16 / 2 ^ k % 2)) = X at hX2 ⊢
    have next : ∀ r, V r 8 = (2 * V u0 8 + V f 16 / 2 ^ k % 2) % nN → ok (xb_M_timesN_129 fu z h2 h3 (x_M_timesN_35 fu z h2 h3 n) (nI k) r f u2) (fun r => V r.2.2 8 = V f 16 % nN) := by
      intro r hr
      unfold xb_M_timesN_129
      refine ok_bnd (ih n r (by omega) (by omega) ?_)
      rw [hr, hI]
      exact tn_s
    have sub : (c = 1 ∨ nN ≤ V X 8) → ok (xb_M_timesN_114 fu z h2 h3 (x_M_timesN_35 fu z h2 h3 n) (nI k) X f u2) (fun r => V r.2.2 8 = V f 16 % nN) := by
      intro ho
      unfold xb_M_timesN_114
      obtain ⟨d, r, er, hd, h2⟩ := v_M_sub_e10s2x23 fu h9 X
      rw [er, bd2_q]
      rw [V_23] at h2
      exact next r (tn_1 nN_T nN_2 hR hb hs hc hX2 hs8 (V8_lt X) ho (V8_lt r) hd h2)
    rcases c_01 hc with hc0 | hc1
    · refine ok_f (by rw [hc0]; decide) ?_
      rw [v_M_compare_s1x23 fu h9, bd1_q, V_23]
      refine ok_ite (fun g => ?_) (fun g => ?_)
      · exact next X (tn_2 hR hs hX2 hc0 ((cmpN_lt _ _).mp g))
      · exact sub (Or.inr (Nat.le_of_not_lt (fun q => g ((cmpN_lt _ _).mpr q))))
    · exact ok_t (by rw [hc1]; rfl) (sub (Or.inl hc1))
set_option maxHeartbeats 100000 in
theorem v_M_timesN (fu : Nat) (hfu : 600 ≤ fu) (z : Nat → Int32) (h2 h3 : Nat → Int32) (u0 u1 w : Nat → Int32) : ok (x_M_timesN fu z h2 h3 u0 u1 w) (fun r => V r.2.2 8 = V h2 8 * V h3 8 % nN) := by
  unfold x_M_timesN
  refine ok_bd1 (v_M_multiply fu (by omega) z h2 h3 u1) (fun f hf => ?_)
  rw [← hf]
  have hz : ∀ r i u n, i + r = 8 → r < n → (∀ j, j < i → u j = 0) → ok (x_M_timesN_9 fu z h2 h3 n (nI i) u f w) (fun r => V r.2.2 8 = V f 16 % nN) := by
    intro r
    induction r with
    | zero =>
      intro i u n hi hn hu
      obtain ⟨n, rfl⟩ : ∃ m, n = m + 1 := ⟨n - 1, by omega⟩
      have e : i = 8 := by omega
      subst e
      show ok (xb_M_timesN_9 fu z h2 h3 (x_M_timesN_9 fu z h2 h3 n) (nI 8) u f w) _
      unfold xb_M_timesN_9
      refine ok_t (show (8 : Int32) ≤ nI 8 from by decide) ?_
      have h511 : (511 : Int32) = nI 512 + (-1) := by decide
      rw [h511]
      refine l_M_timesN_35 fu (by omega) z h2 h3 f w 512 fu u (Nat.le_refl _) (by omega) ?_
      rw [(V_0 u 8).mpr hu, Nat.div_eq_of_lt (V_lt f 16)]
      rfl
    | succ r ih =>
      intro i u n hi hn hu
      obtain ⟨n, rfl⟩ : ∃ m, n = m + 1 := ⟨n - 1, by omega⟩
      show ok (xb_M_timesN_9 fu z h2 h3 (x_M_timesN_9 fu z h2 h3 n) (nI i) u f w) _
      unfold xb_M_timesN_9
      refine ok_f (show ¬ (8 : Int32) ≤ nI i from nI_ge (b := 8) (by omega) (by decide)) (ok_gd (inb_nI (by omega) (by decide)) (ok_bnd (ok_bnd ?_)))
      rw [nI_clamp (n := i) (by omega), nI_1]
      refine ih (i + 1) _ n (by omega) (by omega) (fun j hj => ?_)
      by_cases e : j = i
      · rw [e, pk_us]
      · rw [pk_un e]; exact hu j (by omega)
  exact hz 8 0 u0 fu (by omega) (by omega) (fun j hj => absurd hj (Nat.not_lt_zero _))
set_option maxHeartbeats 100000 in
theorem l_M_timesN_e21_35 (fu : Nat) (h9 : 9 ≤ fu) (z : Nat → Int32) (h3 : Nat → Int32) (f u2 : Nat → Int32) : ∀ k n u0, k ≤ 512 → k < n → V u0 8 = V f 16 / 2 ^ k % nN → ok (x_M_timesN_e21_35 fu z h3 n (nI k + (-1)) u0 f u2) (fun r => V r.2.2 8 = V f 16 % nN) := by
  intro k
  induction k with
  | zero =>
    intro n u0 _ hn hI
    obtain ⟨n, rfl⟩ : ∃ m, n = m + 1 := ⟨n - 1, by omega⟩
    show ok (xb_M_timesN_e21_35 fu z h3 (x_M_timesN_e21_35 fu z h3 n) (nI 0 + (-1)) u0 f u2) _
    unfold xb_M_timesN_e21_35
    refine ok_t (by decide) ?_
    refine ok_bd1 (v_M_copy fu u0 u2) (fun f1 q1 => ok_some ?_)
    show V f1 8 = _
    rw [V_c q1, hI, Nat.pow_zero, Nat.div_one]
  | succ k ih =>
    intro n u0 hk hn hI
    obtain ⟨n, rfl⟩ : ∃ m, n = m + 1 := ⟨n - 1, by omega⟩
    rw [pk_m1]
    show ok (xb_M_timesN_e21_35 fu z h3 (x_M_timesN_e21_35 fu z h3 n) (nI k) u0 f u2) _
    unfold xb_M_timesN_e21_35
    have e1 : nI k / (32 : Int32) = nI (k / 32) := pk_div (d := 32) (by omega) (by decide) (by decide)
    have e2 : nI k - nI k / (32 : Int32) * (32 : Int32) = nI (k % 32) := pk_rem (d := 32) (by omega) (by decide) (by decide)
    have hR : V u0 8 < nN := by rw [hI]; exact Nat.mod_lt _ (Nat.lt_trans (by decide) nN_pr.1)
    obtain ⟨c, s, es, hc, hs⟩ := v_M_add_e10e20 fu h9 u0
    have hs8 := V8_lt s
    have hcT := tn_top hs hs8 hc (by decide)
    refine ok_f (nI_pos (by omega)) (ok_bnd (ok_bnd ?_))
    rw [es, bd2_q, show (7 : Int32).toNatClampNeg = 7 by decide, show (0 : Int32).toNatClampNeg = 0 by decide, top31, V_top7, hcT]
    rw [e2, e1]
    refine ok_bnd (ok_bnd (ok_gd (inb_nI (by omega) (by decide)) (ok_bnd (ok_bnd (ok_bnd (ok_bnd ?_))))))
    rw [nI_clamp (n := k / 32) (by omega), u_bit _ (by omega), V16_bit f (q := k / 32) (r := k % 32) (by omega) (by omega), show 32 * (k / 32) + k % 32 = k by omega]
    have hb : V f 16 / 2 ^ k % 2 ≤ 1 := by omega
    have hev : U (s 0) % 2 = 0 := by
      rw [← V_low]
      generalize V s 8 = a at *
      generalize V u0 8 = b at *
      rcases c_01 hc with rfl | rfl <;> omega
    have hX := V_upd0 s (s 0 ||| nI (V f 16 / 2 ^ k % 2))
    rw [u_or1 hev (by rw [U_nI (by omega)]; exact hb), U_nI (by omega)] at hX
    have hX2 : V (upd s 0 (s 0 ||| nI (V f 16 / 2 ^ k % 2))) 8 = V s 8 + V f 16 / 2 ^ k % 2 := by
      generalize U (s 0) = q at *
      omega
    generalize upd s 0 (s 0 ||| nI (V f 16 / 2 ^ k % 2)) = X at hX2 ⊢
    have next : ∀ r, V r 8 = (2 * V u0 8 + V f 16 / 2 ^ k % 2) % nN → ok (xb_M_timesN_e21_129 fu z h3 (x_M_timesN_e21_35 fu z h3 n) (nI k) r f u2) (fun r => V r.2.2 8 = V f 16 % nN) := by
      intro r hr
      unfold xb_M_timesN_e21_129
      refine ok_bnd (ih n r (by omega) (by omega) ?_)
      rw [hr, hI]
      exact tn_s
    have sub : (c = 1 ∨ nN ≤ V X 8) → ok (xb_M_timesN_e21_114 fu z h3 (x_M_timesN_e21_35 fu z h3 n) (nI k) X f u2) (fun r => V r.2.2 8 = V f 16 % nN) := by
      intro ho
      unfold xb_M_timesN_e21_114
      obtain ⟨d, r, er, hd, h2⟩ := v_M_sub_e10s2x23 fu h9 X
      rw [er, bd2_q]
      rw [V_23] at h2
      exact next r (tn_1 nN_T nN_2 hR hb hs hc hX2 hs8 (V8_lt X) ho (V8_lt r) hd h2)
    rcases c_01 hc with hc0 | hc1
    · refine ok_f (by rw [hc0]; decide) ?_
      rw [v_M_compare_s1x23 fu h9, bd1_q, V_23]
      refine ok_ite (fun g => ?_) (fun g => ?_)
      · exact next X (tn_2 hR hs hX2 hc0 ((cmpN_lt _ _).mp g))
      · exact sub (Or.inr (Nat.le_of_not_lt (fun q => g ((cmpN_lt _ _).mpr q))))
    · exact ok_t (by rw [hc1]; rfl) (sub (Or.inl hc1))
set_option maxHeartbeats 100000 in
theorem v_M_timesN_e21 (fu : Nat) (hfu : 600 ≤ fu) (z : Nat → Int32) (h3 : Nat → Int32) (u0 u1 w : Nat → Int32) : ok (x_M_timesN_e21 fu z h3 u0 u1 w) (fun r => V r.2.2 8 = V w 8 * V h3 8 % nN) := by
  unfold x_M_timesN_e21
  refine ok_bd1 (v_M_multiply fu (by omega) z w h3 u1) (fun f hf => ?_)
  rw [← hf]
  have hz : ∀ r i u n, i + r = 8 → r < n → (∀ j, j < i → u j = 0) → ok (x_M_timesN_e21_9 fu z h3 n (nI i) u f w) (fun r => V r.2.2 8 = V f 16 % nN) := by
    intro r
    induction r with
    | zero =>
      intro i u n hi hn hu
      obtain ⟨n, rfl⟩ : ∃ m, n = m + 1 := ⟨n - 1, by omega⟩
      have e : i = 8 := by omega
      subst e
      show ok (xb_M_timesN_e21_9 fu z h3 (x_M_timesN_e21_9 fu z h3 n) (nI 8) u f w) _
      unfold xb_M_timesN_e21_9
      refine ok_t (show (8 : Int32) ≤ nI 8 from by decide) ?_
      have h511 : (511 : Int32) = nI 512 + (-1) := by decide
      rw [h511]
      refine l_M_timesN_e21_35 fu (by omega) z h3 f w 512 fu u (Nat.le_refl _) (by omega) ?_
      rw [(V_0 u 8).mpr hu, Nat.div_eq_of_lt (V_lt f 16)]
      rfl
    | succ r ih =>
      intro i u n hi hn hu
      obtain ⟨n, rfl⟩ : ∃ m, n = m + 1 := ⟨n - 1, by omega⟩
      show ok (xb_M_timesN_e21_9 fu z h3 (x_M_timesN_e21_9 fu z h3 n) (nI i) u f w) _
      unfold xb_M_timesN_e21_9
      refine ok_f (show ¬ (8 : Int32) ≤ nI i from nI_ge (b := 8) (by omega) (by decide)) (ok_gd (inb_nI (by omega) (by decide)) (ok_bnd (ok_bnd ?_)))
      rw [nI_clamp (n := i) (by omega), nI_1]
      refine ih (i + 1) _ n (by omega) (by omega) (fun j hj => ?_)
      by_cases e : j = i
      · rw [e, pk_us]
      · rw [pk_un e]; exact hu j (by omega)
  exact hz 8 0 u0 fu (by omega) (by omega) (fun j hj => absurd hj (Nat.not_lt_zero _))
