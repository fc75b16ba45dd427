-- the next target
/-- compact form of X, which has n bytes -/
def cpB (n X : Nat) : Int32 := if X / 2 ^ (8 * (n - 3)) < 8388608 then nI (n * 2 ^ 24 + X / 2 ^ (8 * (n - 3))) else nI ((n + 1) * 2 ^ 24 + X / 2 ^ (8 * (n - 3)) / 256)
/-- the bits of a target X, or the highest ones -/
def bsR (X : Nat) (y : Int32) : Prop := (∃ n, 29 ≤ n ∧ 2 ^ (8 * (n - 1)) ≤ X ∧ X < 2 ^ (8 * n) ∧ X < 2 ^ 255 ∧ y = cpB n X) ∨ (2 ^ 255 ≤ X ∧ y = 545259519)
set_option maxHeartbeats 400000 in
theorem bsR_u {X : Nat} {y y' : Int32} (h : bsR X y) (h' : bsR X y') : y = y' := by
  rcases h with ⟨n, n0, n1, n2, n3, n4⟩ | ⟨h1, h2⟩
  · rcases h' with ⟨m, m0, m1, m2, m3, m4⟩ | ⟨g1, g2⟩
    · have : n = m := by
        apply Classical.byContradiction
        intro hne
        rcases Nat.lt_or_gt_of_ne hne with g | g
        · have := Nat.pow_le_pow_right (n := 2) (by decide) (show 8 * n ≤ 8 * (m - 1) by omega)
          omega
        · have := Nat.pow_le_pow_right (n := 2) (by decide) (show 8 * m ≤ 8 * (n - 1) by omega)
          omega
      rw [n4, m4, this]
    · omega
  · rcases h' with ⟨m, m0, m1, m2, m3, m4⟩ | ⟨g1, g2⟩
    · omega
    · rw [h2, g2]
set_option maxHeartbeats 400000 in
theorem nI_24 {e m : Nat} (he : e ≤ 127) (hm : m < 2 ^ 24) : (nI e <<< ((24 : Int32) &&& 31)) ||| nI m = nI (e * 2 ^ 24 + m) := by
  rw [pk_shlN ((24 : Int32) &&& 31) 24 (by decide) (by omega), Int32.or_comm, nI_or hm (by omega), Nat.add_comm]
set_option maxHeartbeats 400000 in
theorem dv_dv (X a b : Nat) : X / 2 ^ a / 2 ^ b = X / 2 ^ (a + b) := by rw [Nat.div_div_eq_div_mul, ← Nat.pow_add]
set_option maxHeartbeats 400000 in
theorem iN_l {n : Nat} : (lN n).toInt32 = nI n := by
  apply Int32.toBitVec_inj.mp
  show (BitVec.ofNat 64 n).signExtend 32 = BitVec.ofNat 32 n
  rw [BitVec.signExtend_eq_setWidth_of_le _ (by decide)]
  apply BitVec.eq_of_toNat_eq
  rw [BitVec.toNat_setWidth, BitVec.toNat_ofNat, BitVec.toNat_ofNat]
  omega
set_option maxHeartbeats 400000 in
theorem lN_sr {n : Nat} (h : n < 2 ^ 63) (s : Int64) (k : Nat) (hs : (s.toBitVec.smod 64).toNat = k) : lN n >>> s = lN (n / 2 ^ k) := by
  apply Int64.toInt_inj.mp
  have h2 : (lN n >>> s).toInt = (lN n).toInt >>> (s.toBitVec.smod 64).toNat := by
    show (BitVec.sshiftRight _ _).toInt = _
    rw [BitVec.toInt_sshiftRight]
    rfl
  rw [h2, hs, lN_I h, lN_I (Nat.lt_of_le_of_lt (Nat.div_le_self _ _) h), Int.shiftRight_eq_div_pow]
  rfl
set_option maxHeartbeats 400000 in
theorem sb_58 (fu : Nat) {X n : Nat} (hn : 29 ≤ n) (hn2 : n ≤ 40) (h1 : 2 ^ (8 * (n - 1)) ≤ X) (h2 : X < 2 ^ (8 * n)) : ok (if (lg_cmp (lN (X / 2 ^ (8 * (n - 3)))) (8388607 : Int64)) ≤ 0 then (xb_Bl_scaledBits_58 fu (lN (X / 2 ^ (8 * (n - 3)))) (nI n)) else (bnd (lN (X / 2 ^ (8 * (n - 3))) >>> ((8 : Int32).toInt64 &&& 63)) fun v1 => bnd (nI n + (1 : Int32)) fun v2 => xb_Bl_scaledBits_58 fu v1 v2)) (bsR X) := by
  have hM : X / 2 ^ (8 * (n - 3)) < 2 ^ 24 := by
    rw [Nat.div_lt_iff_lt_mul (Nat.pow_pos (by decide)), ← Nat.pow_add, show 24 + 8 * (n - 3) = 8 * n by omega]
    exact h2
  have hc : lg_cmp (lN (X / 2 ^ (8 * (n - 3)))) (8388607 : Int64) ≤ 0 ↔ X / 2 ^ (8 * (n - 3)) < 8388608 := by
    rw [lg_le, lN_I (by omega), show (8388607 : Int64).toInt = 8388607 from rfl]
    omega
  have h255 : n = 32 → (X < 2 ^ 255 ↔ X / 2 ^ (8 * (n - 3)) < 8388608) := by
    intro e
    subst e
    rw [Nat.div_lt_iff_lt_mul (Nat.pow_pos (by decide))]
  have hlow : n < 32 → X < 2 ^ 255 := fun g => Nat.lt_of_lt_of_le h2 (Nat.pow_le_pow_right (by decide) (by omega))
  have hhigh : 32 < n → 2 ^ 255 ≤ X := fun g => Nat.le_trans (Nat.pow_le_pow_right (by decide) (by omega)) h1
  generalize hMe : X / 2 ^ (8 * (n - 3)) = M at *
  unfold xb_Bl_scaledBits_58
  refine ok_ite (fun g => ?_) (fun g => ?_)
  · have g := hc.mp g
    by_cases g32 : n ≤ 32
    · refine ok_t (nI_le (b := 32) g32 (by decide)) (ok_bnd (ok_bnd (ok_some (Or.inl ⟨n, hn, h1, h2, ?_, ?_⟩))))
      · by_cases e : n = 32
        · exact (h255 e).mpr g
        · exact hlow (by omega)
      · rw [iN_l, nI_24 (by omega) (by omega)]
        unfold cpB
        rw [hMe, if_pos g]
    · exact ok_f (show ¬ nI n ≤ (32 : Int32) from nI_ge (a := 32) (by omega) (by omega)) (ok_some (Or.inr ⟨hhigh (by omega), rfl⟩))
  · have g : ¬ M < 8388608 := fun q => g (hc.mpr q)
    rw [lN_sr (by omega) ((8 : Int32).toInt64 &&& 63) 8 (by decide), nI_1]
    refine ok_bnd (ok_bnd ?_)
    by_cases g32 : n + 1 ≤ 32
    · refine ok_t (nI_le (b := 32) g32 (by decide)) (ok_bnd (ok_bnd (ok_some (Or.inl ⟨n, hn, h1, h2, hlow (by omega), ?_⟩))))
      rw [iN_l, nI_24 (by omega) (by omega)]
      unfold cpB
      rw [hMe, if_neg g]
    · refine ok_f (show ¬ nI (n + 1) ≤ (32 : Int32) from nI_ge (a := 32) (by omega) (by omega)) (ok_some (Or.inr ⟨?_, rfl⟩))
      by_cases e : n = 32
      · exact Nat.le_of_not_lt (fun q => g ((h255 e).mp q))
      · exact hhigh (by omega)
set_option maxHeartbeats 400000 in
theorem l_sb23 (fu : Nat) {X : Nat} : ∀ r E n, 28 ≤ E → E + r ≤ 36 → r ≤ 3 → r < n → 2 ^ (8 * E - 8) ≤ X → X < 2 ^ (8 * E + 8 * r) → (28 = E → 2 ^ (8 * E) ≤ X) → ok (x_Bl_scaledBits_23 fu n (lN (X / 2 ^ (8 * (E - 3)))) (nI E)) (bsR X) := by
  intro r
  induction r with
  | zero =>
    intro E n hE hE2 hr3 hn h1 h2 h3
    obtain ⟨n, rfl⟩ : ∃ m, n = m + 1 := ⟨n - 1, by omega⟩
    show ok (xb_Bl_scaledBits_23 fu (x_Bl_scaledBits_23 fu n) (lN (X / 2 ^ (8 * (E - 3)))) (nI E)) _
    unfold xb_Bl_scaledBits_23
    have hM : X / 2 ^ (8 * (E - 3)) < 2 ^ 24 := by
      rw [Nat.div_lt_iff_lt_mul (Nat.pow_pos (by decide)), ← Nat.pow_add, show 24 + 8 * (E - 3) = 8 * E + 8 * 0 by omega]
      exact h2
    have hE29 : 29 ≤ E := by
      apply Classical.byContradiction
      intro g
      have h4 := h3 (by omega)
      rw [Nat.mul_zero, Nat.add_zero] at h2
      omega
    refine ok_t ((lg_le _ _).mpr ?_) (sb_58 fu hE29 (by omega) (by rw [show 8 * (E - 1) = 8 * E - 8 by omega]; exact h1) (by rw [Nat.mul_zero, Nat.add_zero] at h2; exact h2))
    rw [lN_I (by omega), show (16777215 : Int64).toInt = 16777215 from rfl]
    omega
  | succ r ih =>
    intro E n hE hE2 hr3 hn h1 h2 h3
    obtain ⟨n, rfl⟩ : ∃ m, n = m + 1 := ⟨n - 1, by omega⟩
    by_cases g : X < 2 ^ (8 * E)
    · show ok (xb_Bl_scaledBits_23 fu (x_Bl_scaledBits_23 fu n) (lN (X / 2 ^ (8 * (E - 3)))) (nI E)) _
      unfold xb_Bl_scaledBits_23
      have hM : X / 2 ^ (8 * (E - 3)) < 2 ^ 24 := by
        rw [Nat.div_lt_iff_lt_mul (Nat.pow_pos (by decide)), ← Nat.pow_add, show 24 + 8 * (E - 3) = 8 * E by omega]
        exact g
      have hE29 : 29 ≤ E := by
        apply Classical.byContradiction
        intro g2
        have h4 := h3 (by omega)
        omega
      refine ok_t ((lg_le _ _).mpr ?_) (sb_58 fu hE29 (by omega) (by rw [show 8 * (E - 1) = 8 * E - 8 by omega]; exact h1) g)
      rw [lN_I (by omega), show (16777215 : Int64).toInt = 16777215 from rfl]
      omega
    · show ok (xb_Bl_scaledBits_23 fu (x_Bl_scaledBits_23 fu n) (lN (X / 2 ^ (8 * (E - 3)))) (nI E)) _
      unfold xb_Bl_scaledBits_23
      have hM : 2 ^ 24 ≤ X / 2 ^ (8 * (E - 3)) := by
        rw [Nat.le_div_iff_mul_le (Nat.pow_pos (by decide)), ← Nat.pow_add, show 24 + 8 * (E - 3) = 8 * E by omega]
        omega
      have hM3 : X / 2 ^ (8 * (E - 3)) < 2 ^ 63 := by
        rw [Nat.div_lt_iff_lt_mul (Nat.pow_pos (by decide)), ← Nat.pow_add]
        exact Nat.lt_of_lt_of_le h2 (Nat.pow_le_pow_right (by decide) (by omega))
      refine ok_f (fun q => ?_) (ok_bnd (ok_bnd ?_))
      · have := (lg_le _ _).mp q
        rw [lN_I hM3, show (16777215 : Int64).toInt = 16777215 from rfl] at this
        omega
      · rw [lN_sr hM3 ((8 : Int32).toInt64 &&& 63) 8 (by decide), nI_1, dv_dv, show 8 * (E - 3) + 8 = 8 * (E + 1 - 3) by omega]
        exact ih (E + 1) n (by omega) (by omega) (by omega) (by omega) (by rw [show 8 * (E + 1) - 8 = 8 * E by omega]; omega) (by rw [show 8 * (E + 1) + 8 * r = 8 * E + 8 * (r + 1) by omega]; exact h2) (fun q => by omega)
set_option maxHeartbeats 400000 in
theorem sb_X {e m t : Nat} (he : 30 ≤ e) : Tg e m * t / 4800 / 2 ^ (8 * (e - 2 - 3)) = m * t * 2 ^ 16 / 4800 := by
  unfold Tg
  have h : m * 2 ^ (8 * (e - 3)) * t = m * t * 2 ^ 16 * 2 ^ (8 * (e - 2 - 3)) := by
    rw [Nat.mul_assoc (m * t), ← Nat.pow_add, show 16 + 8 * (e - 2 - 3) = 8 * (e - 3) by omega, Nat.mul_right_comm]
  rw [h, Nat.div_div_eq_div_mul, Nat.mul_div_mul_right _ _ (Nat.pow_pos (by decide))]
set_option maxHeartbeats 400000 in
theorem X_ge {e m t : Nat} (he : 30 ≤ e) (hm : 32768 ≤ m) (ht : 1200 ≤ t) : 2 ^ (8 * e - 11) ≤ Tg e m * t / 4800 := by
  rw [Nat.le_div_iff_mul_le (by decide)]
  unfold Tg
  have h1 : 8 * e - 11 = 13 + 8 * (e - 3) := by omega
  rw [h1, Nat.pow_add, Nat.mul_right_comm, Nat.mul_right_comm m]
  have h2 : 2 ^ 13 * 4800 ≤ m * t := show 32768 * 1200 ≤ m * t from Nat.mul_le_mul hm ht
  exact Nat.mul_le_mul_right _ h2
set_option maxHeartbeats 400000 in
theorem X_lt {e m t : Nat} (he : 30 ≤ e) (hm : m < 8388608) (ht : t ≤ 19200) : Tg e m * t / 4800 < 2 ^ (8 * e + 1) := by
  rw [Nat.div_lt_iff_lt_mul (by decide)]
  unfold Tg
  have h1 : 8 * e + 1 = 25 + 8 * (e - 3) := by omega
  rw [h1, Nat.pow_add, Nat.mul_right_comm, Nat.mul_right_comm (2 ^ 25)]
  have h2 : m * t < 2 ^ 25 * 4800 := by
    have := Nat.mul_le_mul (Nat.le_of_lt_succ (show m < 8388607 + 1 from hm)) ht
    omega
  exact Nat.mul_lt_mul_of_pos_right h2 (Nat.pow_pos (by decide))
set_option maxHeartbeats 400000 in
theorem v_scaledBits (fu : Nat) (hfu : 9 ≤ fu) {x : Int32} {e m t : Nat} (h : gb x e m) (ht : 1200 ≤ t) (ht2 : t ≤ 19200) : ok (x_Bl_scaledBits fu x (lN t)) (bsR (Tg e m * t / 4800)) := by
  unfold x_Bl_scaledBits
  have h0 := h
  obtain ⟨-, h1, h2, h3, h4⟩ := h0
  have hmt : m * t ≤ 8388608 * 19200 := Nat.mul_le_mul (by omega) ht2
  rw [gb_m h, iL (by omega), gb_e h]
  refine ok_bnd (ok_bn (lN_m m t) (ok_bn (lN_shl ((16 : Int32).toInt64 &&& 63) (k := 16) (by decide)) (ok_bn (pk_lDiv (b := 4800) (by omega) (by decide) (by decide)) (ok_bnd (ok_bn (show nI e - (2 : Int32) = nI (e - 2) from pk_sub (b := 2) (by omega)) ?_)))))
  rw [← sb_X h1]
  have hX1 := X_ge h1 h3 ht
  have hX2 := X_lt h1 h4 ht2
  generalize Tg e m * t / 4800 = X at *
  refine l_sb23 fu 3 (e - 2) fu (by omega) (by omega) (by omega) (by omega) ?_ ?_ (fun _ => ?_)
  · exact Nat.le_trans (Nat.pow_le_pow_right (by decide) (by omega)) hX1
  · exact Nat.lt_of_lt_of_le hX2 (Nat.pow_le_pow_right (by decide) (by omega))
  · exact Nat.le_trans (Nat.pow_le_pow_right (by decide) (by omega)) hX1
/-- good bits after k changes -/
def gT (x : Int32) (k : Nat) : Prop := ∃ e m, gb x e m ∧ 2 ^ (254 - 3 * k) ≤ Tg e m
set_option maxHeartbeats 400000 in
theorem gT_0 : gT 545259519 0 := ⟨32, 8388607, ⟨rfl, by decide, by decide, by decide, by decide⟩, by decide +kernel⟩
set_option maxHeartbeats 400000 in
theorem Tg_lt {x : Int32} {e m : Nat} (h : gb x e m) : Tg e m < 2 ^ 255 := by
  obtain ⟨-, h1, h2, h3, h4⟩ := h
  unfold Tg
  have h5 : 2 ^ (8 * (e - 3)) ≤ 2 ^ (8 * 29) := Nat.pow_le_pow_right (by decide) (by omega)
  have h6 : m * 2 ^ (8 * (e - 3)) ≤ 8388607 * 2 ^ (8 * 29) := Nat.mul_le_mul (by omega) h5
  exact Nat.lt_of_le_of_lt h6 (by decide)
set_option maxHeartbeats 400000 in
theorem bsR_g {X : Nat} {y : Int32} (h : bsR X y) (hX : 2 ^ 232 ≤ X) : ∃ e m, gb y e m ∧ (X ≤ 2 * Tg e m ∨ 2 ^ 254 ≤ Tg e m) := by
  rcases h with ⟨n, n0, n1, n2, n3, rfl⟩ | ⟨h1, rfl⟩
  · have hM : X / 2 ^ (8 * (n - 3)) < 2 ^ 24 := by
      rw [Nat.div_lt_iff_lt_mul (Nat.pow_pos (by decide)), ← Nat.pow_add, show 24 + 8 * (n - 3) = 8 * n by omega]
      exact n2
    have hM2 : 2 ^ 16 ≤ X / 2 ^ (8 * (n - 3)) := by
      rw [Nat.le_div_iff_mul_le (Nat.pow_pos (by decide)), ← Nat.pow_add, show 16 + 8 * (n - 3) = 8 * (n - 1) by omega]
      exact n1
    have n30 : 30 ≤ n := by
      apply Classical.byContradiction
      intro g
      have := Nat.pow_le_pow_right (n := 2) (by decide) (show 8 * n ≤ 232 by omega)
      omega
    have n32 : n ≤ 32 := by
      apply Classical.byContradiction
      intro g
      have := Nat.pow_le_pow_right (n := 2) (by decide) (show 255 ≤ 8 * (n - 1) by omega)
      omega
    have hdm := Nat.div_add_mod X (2 ^ (8 * (n - 3)))
    have hml := Nat.mod_lt X (Nat.pow_pos (n := 8 * (n - 3)) (show 0 < 2 by decide))
    have hBB : 2 ^ (8 * (n + 1 - 3)) = 256 * 2 ^ (8 * (n - 3)) := by
      rw [show 8 * (n + 1 - 3) = 8 + 8 * (n - 3) by omega, Nat.pow_add]
    unfold cpB
    by_cases g : X / 2 ^ (8 * (n - 3)) < 8388608
    · rw [if_pos g]
      refine ⟨n, _, ⟨rfl, n30, n32, by omega, g⟩, Or.inl ?_⟩
      unfold Tg
      generalize X / 2 ^ (8 * (n - 3)) = M at *
      generalize X % 2 ^ (8 * (n - 3)) = Z at *
      generalize 2 ^ (8 * (n - 3)) = B at *
      have : B ≤ M * B := Nat.le_mul_of_pos_left B (by omega)
      rw [Nat.mul_comm B M] at hdm
      omega
    · rw [if_neg g]
      have n31 : n + 1 ≤ 32 := by
        apply Classical.byContradiction
        intro g2
        have e : n = 32 := by omega
        subst e
        apply g
        rw [Nat.div_lt_iff_lt_mul (Nat.pow_pos (by decide))]
        exact n3
      refine ⟨n + 1, _, ⟨rfl, by omega, n31, by omega, by omega⟩, Or.inl ?_⟩
      unfold Tg
      rw [hBB]
      generalize X / 2 ^ (8 * (n - 3)) = M at *
      generalize X % 2 ^ (8 * (n - 3)) = Z at *
      generalize 2 ^ (8 * (n - 3)) = B at *
      have e9 : M / 256 * (256 * B) = M / 256 * 256 * B := (Nat.mul_assoc _ _ _).symm
      rw [e9]
      have h5 : M - 255 ≤ M / 256 * 256 := by omega
      have h6 : (M - 255) * B ≤ M / 256 * 256 * B := Nat.mul_le_mul_right B h5
      have h7 : M * B ≤ (M - 255) * B + 255 * B := by rw [← Nat.add_mul]; exact Nat.mul_le_mul_right B (by omega)
      have h8 : 600 * B ≤ M * B := Nat.mul_le_mul_right B (by omega)
      rw [Nat.mul_comm B M] at hdm
      omega
  · exact ⟨32, 8388607, ⟨rfl, by decide, by decide, by decide, by decide⟩, Or.inr (by decide +kernel)⟩
set_option maxHeartbeats 400000 in
theorem gT_next {x y : Int32} {k e m t : Nat} (hb : gb x e m) (hT : 2 ^ (254 - 3 * k) ≤ Tg e m) (hk : k ≤ 6) (ht : 1200 ≤ t) (h : bsR (Tg e m * t / 4800) y) : gT y (k + 1) := by
  have hX : 2 ^ (252 - 3 * k) ≤ Tg e m * t / 4800 := by
    rw [Nat.le_div_iff_mul_le (by decide)]
    have h1 := Nat.mul_le_mul hT ht
    obtain ⟨a, ha⟩ : ∃ a, a = 252 - 3 * k := ⟨_, rfl⟩
    rw [show 254 - 3 * k = a + 2 by omega, Nat.pow_add] at h1
    rw [← ha]
    refine Nat.le_trans (Nat.le_of_eq ?_) h1
    rw [Nat.mul_assoc]
  obtain ⟨e', m', hg, hor⟩ := bsR_g h (Nat.le_trans (Nat.pow_le_pow_right (by decide) (by omega)) hX)
  refine ⟨e', m', hg, ?_⟩
  rcases hor with h1 | h1
  · obtain ⟨a, ha⟩ : ∃ a, a = 254 - 3 * (k + 1) := ⟨_, rfl⟩
    rw [show 252 - 3 * k = a + 1 by omega, Nat.pow_add] at hX
    rw [← ha]
    generalize 2 ^ a = A at *
    generalize Tg e m * t / 4800 = X at *
    omega
  · exact Nat.le_trans (Nat.pow_le_pow_right (by decide) (by omega)) h1
