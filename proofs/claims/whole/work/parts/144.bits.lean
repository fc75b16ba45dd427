-- targets and their worth
/-- bits as they come up: e bytes, m at their top -/
def gb (x : Int32) (e m : Nat) : Prop := x = nI (e * 2 ^ 24 + m) ∧ 30 ≤ e ∧ e ≤ 32 ∧ 32768 ≤ m ∧ m < 8388608
def Tg (e m : Nat) : Nat := m * 2 ^ (8 * (e - 3))
set_option maxHeartbeats 400000 in
theorem gb_e {x : Int32} {e m : Nat} (h : gb x e m) : (x.toUInt32 >>> ((24 : Int32).toUInt32 &&& Int32.toUInt32 31)).toInt32 = nI e := by
  obtain ⟨rfl, h1, h2, h3, h4⟩ := h
  rw [pk_ushrN (by omega) 24 24 (by decide)]
  congr 1
  omega
set_option maxHeartbeats 400000 in
theorem gb_m {x : Int32} {e m : Nat} (h : gb x e m) : x &&& (16777215 : Int32) = nI m := by
  obtain ⟨rfl, h1, h2, h3, h4⟩ := h
  rw [pk_andN (by omega) 24 (by decide)]
  congr 1
  omega
set_option maxHeartbeats 400000 in
theorem gb_m7 {x : Int32} {e m : Nat} (h : gb x e m) : x &&& (8388607 : Int32) = nI m := by
  obtain ⟨rfl, h1, h2, h3, h4⟩ := h
  rw [pk_andN (by omega) 23 (by decide)]
  congr 1
  omega
set_option maxHeartbeats 400000 in
/-- a byte at place k above all others -/
theorem pl_b {r : Nat → Int32} {k b : Nat} (hk : k < 32) (hb : b < 256) (hlt : V r 8 < 2 ^ (8 * k)) : V (upd r (k / 4) (r (k / 4) ||| (nI b <<< (nI (8 * (k % 4)) &&& 31)))) 8 = V r 8 + b * 2 ^ (8 * k) := by
  have e2 : 8 * k = 32 * (k / 4) + 8 * (k % 4) := by omega
  have hq : U (r (k / 4)) < 2 ^ (8 * (k % 4)) := by
    have h1 := V_add r (k / 4 + 1) (7 - k / 4)
    rw [show k / 4 + 1 + (7 - k / 4) = 8 by omega, V_s r (k / 4)] at h1
    rw [h1, e2, Nat.pow_add] at hlt
    apply Classical.byContradiction
    intro g
    have g2 : 2 ^ (8 * (k % 4)) * 2 ^ (32 * (k / 4)) ≤ U (r (k / 4)) * 2 ^ (32 * (k / 4)) := Nat.mul_le_mul_right _ (Nat.le_of_not_lt g)
    rw [Nat.mul_comm (2 ^ (8 * (k % 4)))] at g2
    generalize 2 ^ (32 * (k / 4)) * 2 ^ (8 * (k % 4)) = X at *
    generalize U (r (k / 4)) * 2 ^ (32 * (k / 4)) = Y at *
    omega
  have h3 := V_updq r (k / 4) (7 - k / 4) (r (k / 4) ||| (nI b <<< (nI (8 * (k % 4)) &&& 31)))
  rw [show k / 4 + 1 + (7 - k / 4) = 8 by omega] at h3
  have hsh : U (nI b <<< (nI (8 * (k % 4)) &&& 31)) = b * 2 ^ (8 * (k % 4)) := by
    have hs := pk_shl (nI b) (nI (8 * (k % 4)) &&& 31) (8 * (k % 4)) (shl8 (k % 4) (by omega))
    show (nI b <<< (nI (8 * (k % 4)) &&& 31)).toBitVec.toNat = _
    rw [hs]
    show U (nI b) * 2 ^ (8 * (k % 4)) % 2 ^ 32 = _
    rw [U_nI (by omega)]
    apply Nat.mod_eq_of_lt
    have : k % 4 = 0 ∨ k % 4 = 1 ∨ k % 4 = 2 ∨ k % 4 = 3 := by omega
    rcases this with g | g | g | g <;> rw [g] <;> omega
  rw [u_or rfl hsh hq, Nat.add_mul, Nat.mul_assoc, ← Nat.pow_add, show 8 * (k % 4) + 32 * (k / 4) = 8 * k by omega] at h3
  generalize b * 2 ^ (8 * k) = X at *
  generalize U (r (k / 4)) * 2 ^ (32 * (k / 4)) = Y at *
  omega
set_option maxHeartbeats 400000 in
theorem sh8k : ∀ k, k < 3 → ((((8 : Int32) * nI k) &&& 31).toBitVec.smod 32).toNat = 8 * k := by decide
set_option maxHeartbeats 400000 in
theorem md_s (m k : Nat) : m % 2 ^ (8 * (k + 1)) = m % 2 ^ (8 * k) + m / 2 ^ (8 * k) % 256 * 2 ^ (8 * k) := by
  rw [show 8 * (k + 1) = 8 * k + 8 by omega, Nat.pow_add, Nat.mod_mul, Nat.mul_comm (2 ^ (8 * k))]
set_option maxHeartbeats 400000 in
theorem l_tg48 (fu : Nat) (hfu : 9 ≤ fu) (z : Nat → Int32) {e m : Nat} (he : 30 ≤ e) (he2 : e ≤ 32) (hm : m < 2 ^ 24) : ∀ r k n u, k + r = 3 → r < n → V u 8 = m % 2 ^ (8 * k) * 2 ^ (8 * (e - 3)) → ok (x_M_target_48 fu z n (nI e) (nI m) (nI k) u) (fun t => V t.2 8 = Tg e m) := by
  intro r
  induction r with
  | zero =>
    intro k n u hi hn h
    obtain ⟨n, rfl⟩ : ∃ m, n = m + 1 := ⟨n - 1, by omega⟩
    have : k = 3 := by omega
    subst this
    have hT : V u 8 = Tg e m := by
      rw [h, Nat.mod_eq_of_lt (by omega)]
      rfl
    show ok (xb_M_target_48 fu z (x_M_target_48 fu z n) (nI e) (nI m) (nI 3) u) _
    unfold xb_M_target_48 xb_M_target_178
    have lo : ∀ r k n, k + r = 7 → r < n → ok (x_M_isLow_2 fu z u n (nI k)) (fun _ => True) := by
      intro r
      induction r with
      | zero =>
        intro k n hi hn
        obtain ⟨n, rfl⟩ : ∃ m, n = m + 1 := ⟨n - 1, by omega⟩
        have : k = 7 := by omega
        subst this
        show ok (xb_M_isLow_2 fu z u (x_M_isLow_2 fu z u n) (nI 7)) _
        unfold xb_M_isLow_2
        exact ok_t (by decide) (ok_some trivial)
      | succ r ih =>
        intro k n hi hn
        obtain ⟨n, rfl⟩ : ∃ m, n = m + 1 := ⟨n - 1, by omega⟩
        show ok (xb_M_isLow_2 fu z u (x_M_isLow_2 fu z u n) (nI k)) _
        unfold xb_M_isLow_2
        refine ok_f (show ¬ (7 : Int32) ≤ nI k from nI_ge (b := 7) (by omega) (by decide)) (ok_gd (inb_nI (by omega) (by decide)) (ok_bnd (ok_ite (fun _ => ok_bnd ?_) (fun _ => ok_some trivial))))
        rw [nI_1]
        exact ih (k + 1) n (by omega) (by omega)
    refine ok_t (by decide) ?_
    rw [v_M_isZero fu hfu, bd1_q]
    refine ok_ite (fun _ => ok_bnd (ok_ite (fun _ => ok_some hT) (fun _ => ok_bnd (ok_ite (fun _ => ok_some hT) (fun _ => ok_bnd (ok_ite (fun _ => ?_) (fun _ => ok_some hT))))))) (fun _ => ok_some hT)
    unfold x_M_isLow
    exact ok_bd1 (lo 7 0 fu (by omega) (by omega)) (fun v _ => ok_ite (fun _ => ok_some hT) (fun _ => ok_some hT))
  | succ r ih =>
    intro k n u hi hn h
    obtain ⟨n, rfl⟩ : ∃ m, n = m + 1 := ⟨n - 1, by omega⟩
    show ok (xb_M_target_48 fu z (x_M_target_48 fu z n) (nI e) (nI m) (nI k) u) _
    unfold xb_M_target_48 xb_M_target_119
    have e6 : nI m >>> (((8 : Int32) * nI k) &&& 31) = nI (m / 2 ^ (8 * k)) := pk_shrN (by omega) _ (8 * k) (sh8k k (by omega))
    have hml : m / 2 ^ (8 * k) ≤ m := Nat.div_le_self _ _
    have e7 : nI (m / 2 ^ (8 * k)) &&& (255 : Int32) = nI (m / 2 ^ (8 * k) % 256) := pk_andN (by omega) 8 (by decide)
    have e8 : nI e - (3 : Int32) = nI (e - 3) := pk_sub (b := 3) (by omega)
    have hb : m / 2 ^ (8 * k) % 256 < 256 := Nat.mod_lt _ (by decide)
    have hpw : 2 ^ (8 * k) * 2 ^ (8 * (e - 3)) = 2 ^ (8 * (e - 3 + k)) := by rw [← Nat.pow_add]; congr 1; omega
    have hstep : m % 2 ^ (8 * (k + 1)) * 2 ^ (8 * (e - 3)) = V u 8 + m / 2 ^ (8 * k) % 256 * 2 ^ (8 * (e - 3 + k)) := by
      rw [md_s, Nat.add_mul, h, Nat.mul_assoc, hpw]
    have hlt : V u 8 < 2 ^ (8 * (e - 3 + k)) := by
      rw [h, ← hpw]
      exact Nat.mul_lt_mul_of_pos_right (Nat.mod_lt _ (Nat.pow_pos (by decide))) (Nat.pow_pos (by decide))
    refine ok_f (show ¬ (3 : Int32) ≤ nI k from nI_ge (b := 3) (by omega) (by decide)) (ok_bn e6 (ok_bn e7 (ok_bn e8 (ok_bn (nI_add _ k) ?_))))
    generalize hB : m / 2 ^ (8 * k) % 256 = b at *
    by_cases b0 : b = 0
    · refine ok_t (by rw [b0]; rfl) (ok_bnd ?_)
      rw [nI_1]
      refine ih (k + 1) n u (by omega) (by omega) ?_
      rw [hstep, b0, Nat.zero_mul, Nat.add_zero]
    · refine ok_f (fun q => b0 ((nI_eq (a := b) (b := 0) (by omega) (by decide)).mp q)) (ok_t (nI_le (a := 0) (by omega) (by omega)) (ok_t (nI_le (b := 31) (by omega) (by decide)) ?_))
      rw [show nI (e - 3 + k) - nI (e - 3 + k) / (4 : Int32) * (4 : Int32) = nI ((e - 3 + k) % 4) from pk_rem (d := 4) (by omega) (by decide) (by decide), show (8 : Int32) * nI ((e - 3 + k) % 4) = nI (8 * ((e - 3 + k) % 4)) from pk_mul 8 _]
      have h8 : inb (nI ((e - 3 + k) / 4)) 8 = true := inb_nI (by omega) (by decide)
      refine ok_bn (show nI (e - 3 + k) / (4 : Int32) = nI ((e - 3 + k) / 4) from pk_div (d := 4) (by omega) (by decide) (by decide)) (ok_gd h8 (ok_bnd (ok_bnd (ok_gd h8 (ok_bnd (ok_bnd ?_))))))
      rw [nI_clamp (n := (e - 3 + k) / 4) (by omega), nI_1]
      refine ih (k + 1) n _ (by omega) (by omega) ?_
      rw [hstep]
      exact pl_b (by omega) hb hlt
set_option maxHeartbeats 400000 in
/-- the reference's target -/
theorem v_M_target (fu : Nat) (hfu : 9 ≤ fu) (z : Nat → Int32) {x : Int32} {e m : Nat} (h : gb x e m) (u0 : Nat → Int32) : ok (x_M_target fu z x u0) (fun t => V t.2 8 = Tg e m) := by
  unfold x_M_target
  refine ok_bn (gb_e h) (ok_bn (gb_m h) ?_)
  obtain ⟨-, h1, h2, h3, h4⟩ := h
  have hz : ∀ r k n u, k + r = 8 → r < n → (∀ j, j < k → u j = 0) → ok (x_M_target_14 fu z n (nI e) (nI m) (nI k) u) (fun t => V t.2 8 = Tg e m) := by
    intro r
    induction r with
    | zero =>
      intro k n u hi hn hu
      obtain ⟨n, rfl⟩ : ∃ m, n = m + 1 := ⟨n - 1, by omega⟩
      have : k = 8 := by omega
      subst this
      show ok (xb_M_target_14 fu z (x_M_target_14 fu z n) (nI e) (nI m) (nI 8) u) _
      unfold xb_M_target_14
      have hm0 : nI m &&& (8388608 : Int32) = 0 := by
        apply U_inj
        show (nI m).toBitVec.toNat &&& 8388608 = 0
        rw [pk_tn (by omega)]
        apply Nat.eq_of_testBit_eq
        intro i
        rw [Nat.testBit_and, show (8388608 : Nat) = 2 ^ 23 from rfl, Nat.testBit_two_pow]
        by_cases hi : 23 = i
        · subst hi
          rw [Nat.testBit_lt_two_pow (by omega)]
          simp
        · simp [hi]
      refine ok_t (by decide) (ok_t hm0 (l_tg48 fu hfu z h1 h2 (by omega) 3 0 fu u (by omega) (by omega) ?_))
      rw [(V_0 u 8).mpr hu, Nat.mul_zero, Nat.pow_zero, Nat.mod_one, Nat.zero_mul]
    | succ r ih =>
      intro k n u hi hn hu
      obtain ⟨n, rfl⟩ : ∃ m, n = m + 1 := ⟨n - 1, by omega⟩
      show ok (xb_M_target_14 fu z (x_M_target_14 fu z n) (nI e) (nI m) (nI k) u) _
      unfold xb_M_target_14
      refine ok_f (show ¬ (8 : Int32) ≤ nI k from nI_ge (b := 8) (by omega) (by decide)) (ok_gd (inb_nI (by omega) (by decide)) (ok_bnd (ok_bnd ?_)))
      rw [nI_clamp (n := k) (by omega), nI_1]
      refine ih (k + 1) n _ (by omega) (by omega) (fun j hj => ?_)
      by_cases g : j = k
      · rw [g, pk_us]
      · rw [pk_un g]; exact hu j (by omega)
  exact hz 8 0 fu u0 (by omega) (by omega) (fun j hj => absurd hj (Nat.not_lt_zero _))
-- division
set_option maxHeartbeats 400000 in
/-- bit k below all others -/
theorem pl_k {u : Nat → Int32} {k Q : Nat} (hk : k < 256) (hV : V u 8 = Q * 2 ^ (k + 1)) : V (upd u (k / 32) (u (k / 32) ||| ((1 : Int32) <<< (nI (k % 32) &&& 31)))) 8 = V u 8 + 2 ^ k := by
  have hw := V_word u (k / 32) (7 - k / 32)
  rw [show k / 32 + 1 + (7 - k / 32) = 8 by omega, hV] at hw
  have e2 : k + 1 = 32 * (k / 32) + (k % 32 + 1) := by omega
  rw [e2, Nat.pow_add, ← Nat.mul_assoc, Nat.mul_comm Q, Nat.mul_assoc, Nat.mul_div_cancel_left _ (Nat.pow_pos (by decide))] at hw
  obtain ⟨a, ha⟩ : ∃ a, U (u (k / 32)) = a * 2 ^ (k % 32 + 1) := by
    refine ⟨Q % 2 ^ (31 - k % 32), ?_⟩
    rw [← hw, show (2 : Nat) ^ 32 = 2 ^ (31 - k % 32) * 2 ^ (k % 32 + 1) from by rw [← Nat.pow_add]; congr 1; omega, Nat.mul_mod_mul_right]
  have h1 : U ((1 : Int32) <<< (nI (k % 32) &&& 31)) = 2 ^ (k % 32) := by
    have hs : ∀ r, r < 32 → ((nI r &&& 31).toBitVec.smod 32).toNat = r := by decide
    have := pk_shl (1 : Int32) (nI (k % 32) &&& 31) (k % 32) (hs _ (by omega))
    show ((1 : Int32) <<< (nI (k % 32) &&& 31)).toBitVec.toNat = _
    rw [this]
    show 1 * 2 ^ (k % 32) % 2 ^ 32 = _
    rw [Nat.one_mul]
    exact Nat.mod_eq_of_lt (Nat.pow_lt_pow_right (by decide) (by omega))
  have h2 : U (u (k / 32) ||| ((1 : Int32) <<< (nI (k % 32) &&& 31))) = 2 ^ (k % 32) + a * 2 ^ (k % 32 + 1) := by
    rw [Int32.or_comm]
    exact u_or h1 ha (Nat.pow_lt_pow_right (by decide) (by omega))
  have h3 := V_updq u (k / 32) (7 - k / 32) (u (k / 32) ||| ((1 : Int32) <<< (nI (k % 32) &&& 31)))
  rw [show k / 32 + 1 + (7 - k / 32) = 8 by omega, h2, ← ha, Nat.add_mul, ← Nat.pow_add, show k % 32 + 32 * (k / 32) = k by omega] at h3
  generalize U (u (k / 32)) * 2 ^ (32 * (k / 32)) = Y at *
  omega
set_option maxHeartbeats 400000 in
theorem dv_s {M d k : Nat} (hd : 0 < d) : M / 2 ^ k / d = 2 * (M / 2 ^ (k + 1) / d) + if d ≤ 2 * (M / 2 ^ (k + 1) % d) + M / 2 ^ k % 2 then 1 else 0 := by
  have e : M / 2 ^ (k + 1) = M / 2 ^ k / 2 := by rw [Nat.pow_succ, Nat.div_div_eq_div_mul]
  rw [e]
  generalize M / 2 ^ k = X
  have h1 : X = 2 * (X / 2) + X % 2 := by omega
  have h2 := Nat.div_add_mod (X / 2) d
  have h3 := Nat.mod_lt (X / 2) hd
  generalize X / 2 / d = q at *
  generalize X / 2 % d = r at *
  have h4 : X = d * (2 * q) + (2 * r + X % 2) := by
    have : d * (2 * q) = 2 * (d * q) := by rw [Nat.mul_left_comm]
    omega
  conv => lhs; rw [h4]
  rw [Nat.mul_add_div hd]
  by_cases g : d ≤ 2 * r + X % 2
  · rw [if_pos g, show (2 * r + X % 2) / d = 1 from Nat.div_eq_of_lt_le (by rw [Nat.one_mul]; exact g) (by omega)]
  · rw [if_neg g, Nat.div_eq_of_lt (by omega)]
set_option maxHeartbeats 400000 in
theorem tn_3 {R b N T s c d X : Nat} (hN : N < T) (hR : R < N) (hb : b ≤ 1) (h1 : s + c * T = R + R) (hc : c ≤ 1) (hX : X = s + b) (hs : s < T) (hX2 : X < T) (ho : c = 1 ∨ N ≤ X) {r : Nat} (hr : r < T) (hd : d ≤ 1) (h2 : r + N = X + d * T) : r = (2 * R + b) % N ∧ N ≤ 2 * R + b := by
  have e : r + N = 2 * R + b := by
    rcases c_01 hc with rfl | rfl <;> rcases c_01 hd with rfl | rfl <;> omega
  refine ⟨?_, by omega⟩
  rw [← e, Nat.add_mod_right, Nat.mod_eq_of_lt (by omega)]
set_option maxHeartbeats 400000 in
theorem l_dv48 (fu : Nat) (h9 : 9 ≤ fu) (z : Nat → Int32) (h1 h2 u0 u3 : Nat → Int32) (hd : 0 < V u3 8) : ∀ k n u1 u2, k ≤ 256 → k < n → V u1 8 = V u0 8 / 2 ^ k % V u3 8 → V u2 8 = V u0 8 / 2 ^ k / V u3 8 * 2 ^ k → ok (x_M_divide_48 fu z h1 h2 n (nI k + (-1)) u0 u1 u2 u3) (fun t => V t.2.2.1 8 = V u0 8 / V u3 8) := by
  intro k
  induction k with
  | zero =>
    intro n u1 u2 _ hn hR hQ
    obtain ⟨n, rfl⟩ : ∃ m, n = m + 1 := ⟨n - 1, by omega⟩
    show ok (xb_M_divide_48 fu z h1 h2 (x_M_divide_48 fu z h1 h2 n) (nI 0 + (-1)) u0 u1 u2 u3) _
    unfold xb_M_divide_48
    refine ok_t (by decide) (ok_some ?_)
    show V u2 8 = _
    rw [hQ, Nat.pow_zero, Nat.div_one, Nat.mul_one]
  | succ k ih =>
    intro n u1 u2 hk hn hR hQ
    obtain ⟨n, rfl⟩ : ∃ m, n = m + 1 := ⟨n - 1, by omega⟩
    rw [pk_m1]
    show ok (xb_M_divide_48 fu z h1 h2 (x_M_divide_48 fu z h1 h2 n) (nI k) u0 u1 u2 u3) _
    unfold xb_M_divide_48
    have e1 : nI k / (32 : Int32) = nI (k / 32) := pk_div (d := 32) (by omega) (by decide) (by decide)
    have e2 : nI k - nI k / (32 : Int32) * (32 : Int32) = nI (k % 32) := pk_rem (d := 32) (by omega) (by decide) (by decide)
    have hRl : V u1 8 < V u3 8 := by rw [hR]; exact Nat.mod_lt _ hd
    obtain ⟨c, s, es, hc, hs⟩ := v_M_add_e10e20 fu h9 u1
    have hs8 := V8_lt s
    have hcT := tn_top hs hs8 hc (by decide)
    refine ok_f (nI_pos (by omega)) (ok_bnd (ok_bnd ?_))
    rw [es, bd2_q, show (7 : Int32).toNatClampNeg = 7 by decide, show (0 : Int32).toNatClampNeg = 0 by decide, top31, V_top7, hcT]
    refine ok_bnd ?_
    rw [v_M_bit fu u0 (by omega), bd1_q]
    refine ok_bnd (ok_bnd ?_)
    have hb : V u0 8 / 2 ^ k % 2 ≤ 1 := by omega
    have hev : U (s 0) % 2 = 0 := by
      rw [← V_low]
      generalize V s 8 = a at *
      generalize V u1 8 = b at *
      rcases c_01 hc with rfl | rfl <;> omega
    have hX := V_upd0 s (s 0 ||| nI (V u0 8 / 2 ^ k % 2))
    rw [u_or1 hev (by rw [U_nI (by omega)]; exact hb), U_nI (by omega)] at hX
    have hX2 : V (upd s 0 (s 0 ||| nI (V u0 8 / 2 ^ k % 2))) 8 = V s 8 + V u0 8 / 2 ^ k % 2 := by
      generalize U (s 0) = q at *
      omega
    generalize upd s 0 (s 0 ||| nI (V u0 8 / 2 ^ k % 2)) = X at hX2 ⊢
    have hdv := dv_s (M := V u0 8) (d := V u3 8) (k := k) hd
    rw [← hR] at hdv
    have hpk : V u0 8 / 2 ^ (k + 1) / V u3 8 * 2 ^ (k + 1) = 2 * (V u0 8 / 2 ^ (k + 1) / V u3 8) * 2 ^ k := by
      rw [Nat.pow_succ]
      generalize V u0 8 / (2 ^ k * 2) / V u3 8 = A
      generalize 2 ^ k = Z
      grind
    have next : ∀ r q, V r 8 = (2 * V u1 8 + V u0 8 / 2 ^ k % 2) % V u3 8 → V q 8 = V u0 8 / 2 ^ k / V u3 8 * 2 ^ k → ok (xb_M_divide_151 fu z h1 h2 (x_M_divide_48 fu z h1 h2 n) (nI k) u0 r q u3) (fun t => V t.2.2.1 8 = V u0 8 / V u3 8) := by
      intro r q hr hq
      unfold xb_M_divide_151
      refine ok_bnd (ih n r q (by omega) (by omega) ?_ hq)
      rw [hr, hR]
      exact tn_s
    have sub : (c = 1 ∨ V u3 8 ≤ V X 8) → ok (xb_M_divide_117 fu z h1 h2 (x_M_divide_48 fu z h1 h2 n) (nI k) u0 X u2 u3) (fun t => V t.2.2.1 8 = V u0 8 / V u3 8) := by
      intro ho
      unfold xb_M_divide_117
      obtain ⟨d, r, er, hdd, h2'⟩ := v_M_sub_e10 fu h9 u3 X
      rw [er, bd2_q]
      have t3 := tn_3 (V8_lt u3) hRl hb hs hc hX2 hs8 (V8_lt X) ho (V8_lt r) hdd h2'
      rw [if_pos t3.2] at hdv
      rw [e2]
      have h8 : inb (nI (k / 32)) 8 = true := inb_nI (by omega) (by decide)
      refine ok_bn e1 (ok_gd h8 (ok_bnd (ok_bnd (ok_gd h8 (ok_bnd ?_)))))
      rw [nI_clamp (n := k / 32) (by omega)]
      refine next r _ t3.1 ?_
      rw [pl_k (by omega) hQ, hQ, hdv, hpk, Nat.add_mul, Nat.one_mul]
    rcases c_01 hc with hc0 | hc1
    · refine ok_f (by rw [hc0]; decide) ?_
      rw [v_M_compare fu h9, bd1_q]
      refine ok_ite (fun g => ?_) (fun g => ?_)
      · have g := (cmpN_lt _ _).mp g
        refine next X u2 (tn_2 hRl hs hX2 hc0 g) ?_
        have hno : ¬ V u3 8 ≤ 2 * V u1 8 + V u0 8 / 2 ^ k % 2 := by
          subst hc0
          omega
        rw [if_neg hno, Nat.add_zero] at hdv
        rw [hQ, hdv, hpk]
      · exact sub (Or.inr (Nat.le_of_not_lt (fun q => g ((cmpN_lt _ _).mpr q))))
    · exact ok_t (by rw [hc1]; rfl) (sub (Or.inl hc1))
set_option maxHeartbeats 400000 in
theorem v_M_divide (fu : Nat) (hfu : 300 ≤ fu) (z : Nat → Int32) (h1 h2 u0 u1 u2 u3 : Nat → Int32) (hd : 0 < V h2 8) : ok (x_M_divide fu z h1 h2 u0 u1 u2 u3) (fun t => V t.2.2.1 8 = V h1 8 / V h2 8) := by
  unfold x_M_divide
  refine ok_bd1 (v_M_copy fu h1 u0) (fun f1 q1 => ok_bd1 (v_M_copy fu h2 u3) (fun f2 q2 => ?_))
  have e1 : V f1 8 = V h1 8 := V_c q1
  have e2 : V f2 8 = V h2 8 := V_c q2
  rw [← e1, ← e2]
  rw [← e2] at hd
  have hz : ∀ r k n v w, k + r = 8 → r < n → (∀ j, j < k → v j = 0 ∧ w j = 0) → ok (x_M_divide_18 fu z h1 h2 n (nI k) f1 v w f2) (fun t => V t.2.2.1 8 = V f1 8 / V f2 8) := by
    intro r
    induction r with
    | zero =>
      intro k n v w hi hn hu
      obtain ⟨n, rfl⟩ : ∃ m, n = m + 1 := ⟨n - 1, by omega⟩
      have : k = 8 := by omega
      subst this
      show ok (xb_M_divide_18 fu z h1 h2 (x_M_divide_18 fu z h1 h2 n) (nI 8) f1 v w f2) _
      unfold xb_M_divide_18
      have h255 : (255 : Int32) = nI 256 + (-1) := by decide
      rw [h255]
      have z0 : V f1 8 / 2 ^ 256 = 0 := Nat.div_eq_of_lt (V8_lt f1)
      refine ok_t (by decide) (l_dv48 fu (by omega) z h1 h2 f1 f2 hd 256 fu v w (Nat.le_refl _) (by omega) ?_ ?_)
      · rw [z0, Nat.zero_mod]; exact (V_0 v 8).mpr (fun j hj => (hu j hj).1)
      · rw [z0, Nat.zero_div, Nat.zero_mul]; exact (V_0 w 8).mpr (fun j hj => (hu j hj).2)
    | succ r ih =>
      intro k n v w hi hn hu
      obtain ⟨n, rfl⟩ : ∃ m, n = m + 1 := ⟨n - 1, by omega⟩
      show ok (xb_M_divide_18 fu z h1 h2 (x_M_divide_18 fu z h1 h2 n) (nI k) f1 v w f2) _
      unfold xb_M_divide_18
      have h8 : inb (nI k) 8 = true := inb_nI (by omega) (by decide)
      refine ok_f (show ¬ (8 : Int32) ≤ nI k from nI_ge (b := 8) (by omega) (by decide)) (ok_gd h8 (ok_bnd (ok_gd h8 (ok_bnd (ok_bnd ?_)))))
      rw [nI_clamp (n := k) (by omega), nI_1]
      refine ih (k + 1) n _ _ (by omega) (by omega) (fun j hj => ?_)
      by_cases g : j = k
      · rw [g, pk_us, pk_us]; exact ⟨rfl, rfl⟩
      · rw [pk_un g, pk_un g]; exact hu j (by omega)
  exact hz 8 0 fu u1 u2 (by omega) (by omega) (fun j hj => absurd hj (Nat.not_lt_zero _))
