-- work
set_option maxHeartbeats 400000 in
theorem wk_e {A B m q r : Nat} (hA : A = m * q + r) (hr : r < m) (hB : q ≤ B) (hm : 0 < m) (hq : 0 < q) : A * B / (m * B + 1) = if r = 0 then q - 1 else q := by
  have hAB : A * B = q * (m * B) + r * B := by
    rw [hA]
    grind
  have hmB : B ≤ m * B := Nat.le_mul_of_pos_left B hm
  generalize hT : m * B = T at *
  rw [hAB]
  by_cases g : r = 0
  · subst g
    rw [if_pos rfl, Nat.zero_mul, Nat.add_zero]
    obtain ⟨p, rfl⟩ : ∃ p, q = p + 1 := ⟨q - 1, by omega⟩
    apply Nat.div_eq_of_lt_le
    · rw [show p + 1 - 1 = p by omega, Nat.mul_add, Nat.mul_one, Nat.add_mul, Nat.one_mul]
      omega
    · rw [show p + 1 - 1 + 1 = p + 1 by omega, Nat.mul_add, Nat.mul_one]
      omega
  · rw [if_neg g]
    have h1 : B ≤ r * B := Nat.le_mul_of_pos_left B (Nat.pos_of_ne_zero g)
    have h2 : r * B + B ≤ T := by
      rw [← hT, ← Nat.succ_mul]
      exact Nat.mul_le_mul_right B hr
    apply Nat.div_eq_of_lt_le
    · rw [Nat.mul_add, Nat.mul_one]
      omega
    · rw [Nat.mul_add, Nat.mul_one, Nat.add_mul, Nat.one_mul]
      omega
def Wk (e m : Nat) : Nat := 2 ^ 256 / (Tg e m + 1)
set_option maxHeartbeats 400000 in
theorem wk_s {m j : Nat} (hm : 0 < m) : 256 ^ (j + 1) / m = 256 ^ j / m * 256 + 256 ^ j % m * 256 / m ∧ 256 ^ (j + 1) % m = 256 ^ j % m * 256 % m := by
  have h := Nat.div_add_mod (256 ^ j) m
  rw [Nat.pow_succ]
  generalize hX : 256 ^ j = X at *
  have e : X * 256 = m * (X / m * 256) + X % m * 256 := by
    rw [← Nat.mul_assoc, ← Nat.add_mul, h]
  refine ⟨?_, ?_⟩
  · conv => lhs; rw [e]
    rw [Nat.mul_add_div hm]
  · conv => lhs; rw [e]
    rw [Nat.mul_add_mod]
set_option maxHeartbeats 400000 in
theorem l_wk27 (fu : Nat) {e m : Nat} (he : 30 ≤ e) (he2 : e ≤ 32) (hm : 32768 ≤ m) (hm2 : m < 8388608) : ∀ r j n, j + r = 35 - e → r < n → x_Bl_workOf_27 fu n (lN m) (lN (256 ^ j / m)) (lN (256 ^ j % m)) (nI (e - 3 + j)) = some (lN (Wk e m)) := by
  intro r
  induction r with
  | zero =>
    intro j n hi hn
    obtain ⟨n, rfl⟩ : ∃ m, n = m + 1 := ⟨n - 1, by omega⟩
    have ej : e - 3 + j = 32 := by omega
    show xb_Bl_workOf_27 fu (x_Bl_workOf_27 fu n) (lN m) (lN (256 ^ j / m)) (lN (256 ^ j % m)) (nI (e - 3 + j)) = _
    unfold xb_Bl_workOf_27
    rw [ej, if_pos (by decide)]
    have hj : j = 35 - e := by omega
    have hjp : 256 ^ j ≤ 256 ^ 5 := Nat.pow_le_pow_right (by decide) (by omega)
    have hj3 : 256 ^ 3 ≤ 256 ^ j := Nat.pow_le_pow_right (by decide) (by omega)
    have hrl : 256 ^ j % m < m := Nat.mod_lt _ (by omega)
    have hB : 256 ^ j / m ≤ 2 ^ (8 * (e - 3)) := by
      have : 2 ^ (8 * 27) ≤ 2 ^ (8 * (e - 3)) := Nat.pow_le_pow_right (by decide) (by omega)
      have h2 := Nat.div_le_self (256 ^ j) m
      have h3 : (256 : Nat) ^ 5 ≤ 2 ^ (8 * 27) := by decide
      omega
    have hq0 : 0 < 256 ^ j / m := Nat.div_pos (by omega) (by omega)
    have hAB : 256 ^ j * 2 ^ (8 * (e - 3)) = 2 ^ 256 := by
      rw [show (256 : Nat) = 2 ^ 8 from rfl, ← Nat.pow_mul, ← Nat.pow_add]
      congr 1
      omega
    have hW : Wk e m = if 256 ^ j % m = 0 then 256 ^ j / m - 1 else 256 ^ j / m := by
      unfold Wk Tg
      rw [← hAB]
      exact wk_e (Nat.div_add_mod (256 ^ j) m).symm hrl hB (by omega) hq0
    have hql : 256 ^ j / m < 2 ^ 60 := Nat.lt_of_le_of_lt (Nat.div_le_self _ _) (Nat.lt_of_le_of_lt hjp (by decide))
    rw [hW]
    generalize 256 ^ j / m = q at *
    generalize 256 ^ j % m = r at *
    have hz : lg_cmp (lN r) 0 = 0 ↔ r = 0 := by
      rw [(lg_0 _).1, lN_I (by omega)]
      omega
    by_cases g : r = 0
    · rw [if_pos (hz.mpr g), if_pos g, bnd_q]
      congr 1
      apply Int64.toInt_inj.mp
      refine (zz_i (X := ((q - 1 : Nat) : Int)) ?_ ?_ ?_).trans ?_
      · rw [show ((q - 1 : Nat) : Int) = (q : Int) - 1 by omega, ← lN_I (n := q) (by omega)]
        exact zz_d (zz_s _) (zz_k rfl)
      · omega
      · omega
      · rw [lN_I (by omega)]
    · rw [if_neg (fun q => g (hz.mp q)), if_neg g]
  | succ r ih =>
    intro j n hi hn
    obtain ⟨n, rfl⟩ : ∃ m, n = m + 1 := ⟨n - 1, by omega⟩
    show xb_Bl_workOf_27 fu (x_Bl_workOf_27 fu n) (lN m) (lN (256 ^ j / m)) (lN (256 ^ j % m)) (nI (e - 3 + j)) = _
    unfold xb_Bl_workOf_27
    rw [if_neg (show ¬ (32 : Int32) ≤ nI (e - 3 + j) from nI_ge (b := 32) (by omega) (by decide))]
    have hjp : 256 ^ j ≤ 256 ^ 4 := Nat.pow_le_pow_right (by decide) (by omega)
    have hrl : 256 ^ j % m < m := Nat.mod_lt _ (by omega)
    have hql : 256 ^ j / m ≤ 256 ^ 4 := Nat.le_trans (Nat.div_le_self _ _) hjp
    have hs := wk_s (m := m) (j := j) (by omega)
    have hnz : nzl (lN m) = true := by
      unfold nzl
      refine decide_eq_true (fun q => ?_)
      have := congrArg Int64.toInt q
      rw [lN_I (by omega)] at this
      have h0 : (0 : Int64).toInt = 0 := rfl
      rw [h0] at this
      omega
    simp only [↓bnd_q]
    rw [gd_t hnz, gd_t hnz, lN_shl ((8 : Int32).toInt64 &&& 63) (k := 8) (by decide), lN_shl ((8 : Int32).toInt64 &&& 63) (k := 8) (by decide)]
    rw [← ih (j + 1) n (by omega) (by omega), hs.1, hs.2, nI_1]
    generalize 256 ^ j / m = q at *
    generalize 256 ^ j % m = r at *
    rw [show (256 : Nat) = 2 ^ 8 from rfl, pk_lDiv (by omega) (by omega) (by omega), show lN (r * 2 ^ 8) - lN (r * 2 ^ 8 / m) * lN m = lN (r * 2 ^ 8 % m) from by rw [← pk_lDiv (by omega) (by omega) (by omega)]; exact pk_lRem (by omega) (by omega) (by omega)]
    congr 1
    apply Int64.toInt_inj.mp
    have hdl : r * 2 ^ 8 / m ≤ r * 2 ^ 8 := Nat.div_le_self _ _
    refine (zz_i (X := ((q * 2 ^ 8 + r * 2 ^ 8 / m : Nat) : Int)) ?_ ?_ ?_).trans ?_
    · rw [Int.natCast_add, ← lN_I (n := q * 2 ^ 8) (by omega), ← lN_I (n := r * 2 ^ 8 / m) (by omega)]
      exact zz_a (zz_s _) (zz_s _)
    · generalize r * 2 ^ 8 / m = D at *; omega
    · generalize r * 2 ^ 8 / m = D at *; omega
    · rw [lN_I (by generalize r * 2 ^ 8 / m = D at *; omega)]
set_option maxHeartbeats 400000 in
theorem v_workOf (fu : Nat) (hfu : 9 ≤ fu) {x : Int32} {e m : Nat} (h : gb x e m) : x_Bl_workOf fu x = some (lN (Wk e m)) := by
  unfold x_Bl_workOf
  rw [bnd_q, gb_m7 h, gb_e h]
  obtain ⟨-, h1, h2, h3, h4⟩ := h
  rw [iL (by omega), if_neg (fun q => by have := (lg_0 _).1.mp q; rw [lN_I (by omega)] at this; omega), bnd_q, bnd_q, show nI e - (3 : Int32) = nI (e - 3) from pk_sub (b := 3) (by omega)]
  have := l_wk27 fu h1 h2 h3 h4 (35 - e) 0 fu (by omega) (by omega)
  rw [Nat.pow_zero, Nat.div_eq_of_lt (by omega), Nat.mod_eq_of_lt (by omega), Nat.add_zero] at this
  exact this
-- whether a hash is above the target
set_option maxHeartbeats 400000 in
theorem gb_by {x : Int32} {e m : Nat} (h : gb x e m) {p : Nat} (hp : p < 3) : (x.toUInt32 >>> (((8 : Int32) * nI p).toUInt32 &&& Int32.toUInt32 31)).toInt32 &&& (255 : Int32) = nI (m / 2 ^ (8 * p) % 256) := by
  obtain ⟨rfl, h1, h2, h3, h4⟩ := h
  have hs : ∀ p, p < 3 → ((((8 : Int32) * nI p).toUInt32 &&& Int32.toUInt32 31).toBitVec % 32).toNat = 8 * p := by decide
  rw [pk_ushrN (by omega) _ (8 * p) (hs p hp), pk_andN (Nat.lt_of_le_of_lt (Nat.div_le_self _ _) (by omega)) 8 (by decide)]
  congr 1
  have cs : p = 0 ∨ p = 1 ∨ p = 2 := by omega
  rcases cs with rfl | rfl | rfl
  · show (e * 2 ^ 24 + m) / 2 ^ 0 % 2 ^ 8 = m / 2 ^ 0 % 256
    omega
  · show (e * 2 ^ 24 + m) / 2 ^ 8 % 2 ^ 8 = m / 2 ^ 8 % 256
    omega
  · show (e * 2 ^ 24 + m) / 2 ^ 16 % 2 ^ 8 = m / 2 ^ 16 % 256
    omega
set_option maxHeartbeats 400000 in
theorem Tg_by {e m k : Nat} (he : 3 ≤ e) (hm : m < 2 ^ 24) : Tg e m / 2 ^ (8 * k) % 256 = if k < e - 3 then 0 else if k < e then m / 2 ^ (8 * (k - (e - 3))) % 256 else 0 := by
  unfold Tg
  by_cases g : k < e - 3
  · rw [if_pos g, show 8 * (e - 3) = 8 * (e - 3 - k - 1) + 8 + 8 * k by omega, Nat.pow_add, Nat.pow_add, ← Nat.mul_assoc, Nat.mul_div_cancel _ (Nat.pow_pos (by decide)), ← Nat.mul_assoc]
    exact Nat.mul_mod_left _ _
  · rw [if_neg g]
    have e1 : m * 2 ^ (8 * (e - 3)) / 2 ^ (8 * k) = m / 2 ^ (8 * (k - (e - 3))) := by
      rw [show 8 * k = 8 * (k - (e - 3)) + 8 * (e - 3) by omega, Nat.pow_add, Nat.mul_div_mul_right _ _ (Nat.pow_pos (by decide))]
    rw [e1]
    by_cases g2 : k < e
    · rw [if_pos g2]
    · rw [if_neg g2, Nat.div_eq_of_lt]
      have : 2 ^ 24 ≤ 2 ^ (8 * (k - (e - 3))) := Nat.pow_le_pow_right (by decide) (by omega)
      omega
set_option maxHeartbeats 400000 in
theorem l_ia10 (fu n0 : Nat) (hn0 : 32 ≤ n0) (hn1 : n0 < 2 ^ 31) (h : Nat → Int32) {x : Int32} {e m : Nat} (hg : gb x e m) : ∀ k n, k ≤ 32 → k < n → x_Bl_isAbove_10 fu n0 h n x (nI (e - 3)) (nI k + (-1)) = some (if Tg e m % 2 ^ (8 * k) < leP h 0 k then 1 else 0) := by
  have hg0 := hg
  obtain ⟨-, h1, h2, h3, h4⟩ := hg0
  intro k
  induction k with
  | zero =>
    intro n _ hn
    obtain ⟨n, rfl⟩ : ∃ m, n = m + 1 := ⟨n - 1, by omega⟩
    show xb_Bl_isAbove_10 fu n0 h (x_Bl_isAbove_10 fu n0 h n) x (nI (e - 3)) (nI 0 + (-1)) = _
    unfold xb_Bl_isAbove_10
    rw [if_pos (by decide), show leP h 0 0 = 0 from rfl, if_neg (Nat.not_lt_zero _)]
  | succ k ih =>
    intro n hk hn
    obtain ⟨n, rfl⟩ : ∃ m, n = m + 1 := ⟨n - 1, by omega⟩
    rw [pk_m1]
    show xb_Bl_isAbove_10 fu n0 h (x_Bl_isAbove_10 fu n0 h n) x (nI (e - 3)) (nI k) = _
    unfold xb_Bl_isAbove_10 xb_Bl_isAbove_30
    have step : ∀ y, y = nI (Tg e m / 2 ^ (8 * k) % 256) → xb_Bl_isAbove_45 fu n0 h (x_Bl_isAbove_10 fu n0 h n) x (nI (e - 3)) (nI k) y = some (if Tg e m % 2 ^ (8 * (k + 1)) < leP h 0 (k + 1) then 1 else 0) := by
      intro y hy
      subst hy
      unfold xb_Bl_isAbove_45
      have hin : inb (nI k) n0 = true := inb_nI (by omega) hn1
      have hB := By_lt (h k)
      have hT : Tg e m / 2 ^ (8 * k) % 256 < 256 := Nat.mod_lt _ (by decide)
      have hlow := leP_lt h 0 k
      have hmod : Tg e m % 2 ^ (8 * k) < 2 ^ (8 * k) := Nat.mod_lt _ (Nat.pow_pos (by decide))
      have eL : leP h 0 (k + 1) = leP h 0 k + By (h k) * 2 ^ (8 * k) := by
        show leP h 0 k + By (h (0 + k)) * 2 ^ (8 * k) = _
        rw [Nat.zero_add]
      rw [md_s, eL]
      simp only [↓bnd_q]
      rw [gd_t hin, gd_t hin, nI_clamp (n := k) (by omega), and255]
      have hih := ih n (by omega) (by omega)
      generalize Tg e m % 2 ^ (8 * k) = A at *
      generalize leP h 0 k = C at *
      generalize Tg e m / 2 ^ (8 * k) % 256 = a at *
      generalize By (h k) = b at *
      generalize 2 ^ (8 * k) = X at *
      by_cases g : b = a
      · subst g
        rw [if_pos rfl, hih]
        congr 1
        by_cases g2 : A < C
        · rw [if_pos g2, if_pos (by omega)]
        · rw [if_neg g2, if_neg (by omega)]
      · rw [if_neg (fun q => g ((nI_eq (by omega) (by omega)).mp q))]
        by_cases g2 : b ≤ a
        · have : (b + 1) * X ≤ a * X := Nat.mul_le_mul_right X (by omega)
          rw [Nat.add_mul, Nat.one_mul] at this
          rw [if_pos (nI_le g2 (by omega)), if_neg (by omega)]
        · have : (a + 1) * X ≤ b * X := Nat.mul_le_mul_right X (by omega)
          rw [Nat.add_mul, Nat.one_mul] at this
          rw [if_neg (nI_ge (by omega) (by omega)), if_pos (by omega)]
    rw [if_neg (nI_pos (by omega)), bnd_q]
    have hby := Tg_by (e := e) (k := k) (m := m) (by omega) (by omega)
    by_cases g : k < e - 3
    · rw [if_pos (pk_sneg (by omega) g)]
      refine step _ ?_
      rw [hby, if_pos g]
      rfl
    · rw [show nI k - nI (e - 3) = nI (k - (e - 3)) from pk_sub (by omega), if_neg (nI_pos (by omega))]
      rw [if_neg g] at hby
      by_cases g2 : k < e
      · rw [if_pos (show nI (k - (e - 3)) ≤ (2 : Int32) from nI_le (b := 2) (by omega) (by decide)), bnd_q]
        refine step _ ?_
        rw [hby, if_pos g2]
        exact gb_by hg (by omega)
      · rw [if_neg (show ¬ nI (k - (e - 3)) ≤ (2 : Int32) from nI_ge (a := 2) (by omega) (by omega))]
        refine step _ ?_
        rw [hby, if_neg g2]
        rfl
set_option maxHeartbeats 400000 in
theorem v_isAbove (fu : Nat) (hfu : 40 ≤ fu) (n0 : Nat) (hn0 : 32 ≤ n0) (hn1 : n0 < 2 ^ 31) (h : Nat → Int32) {x : Int32} {e m : Nat} (hg : gb x e m) : x_Bl_isAbove fu n0 h x = some (if Tg e m < leP h 0 32 then 1 else 0) := by
  unfold x_Bl_isAbove
  rw [bnd_q, gb_e hg, bnd_q]
  have hg0 := hg
  obtain ⟨-, h1, h2, h3, h4⟩ := hg0
  rw [show nI e - (3 : Int32) = nI (e - 3) from pk_sub (b := 3) (by omega), show (31 : Int32) = nI 32 + (-1) by decide, l_ia10 fu n0 hn0 hn1 h hg 32 fu (by omega) (by omega)]
  have hT : Tg e m < 2 ^ (8 * 32) := by
    unfold Tg
    have h5 : 2 ^ (8 * (e - 3)) ≤ 2 ^ (8 * 29) := Nat.pow_le_pow_right (by decide) (by omega)
    have h6 : m * 2 ^ (8 * (e - 3)) ≤ 8388608 * 2 ^ (8 * 29) := Nat.mul_le_mul (by omega) h5
    have h7 : 8388608 * 2 ^ (8 * 29) < 2 ^ (8 * 32) := by decide
    omega
  rw [Nat.mod_eq_of_lt hT]
