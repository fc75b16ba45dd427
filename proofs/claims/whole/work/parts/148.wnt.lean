-- the reference's next target
set_option maxHeartbeats 400000 in
theorem lN_a (a b : Nat) : lN a + lN b = lN (a + b) := by
  apply Int64.toBitVec_inj.mp
  show BitVec.ofNat 64 a + BitVec.ofNat 64 b = BitVec.ofNat 64 (a + b)
  exact (BitVec.ofNat_add _ _).symm
set_option maxHeartbeats 400000 in
theorem V_byte (h : Nat → Int32) {k : Nat} (hk : k < 32) : U (h (k / 4)) / 2 ^ (8 * (k % 4)) % 256 = V h 8 / 2 ^ (8 * k) % 256 := by
  have hw := V_word h (k / 4) (7 - k / 4)
  rw [show k / 4 + 1 + (7 - k / 4) = 8 by omega] at hw
  rw [← hw, show 8 * k = 32 * (k / 4) + 8 * (k % 4) by omega, ← dv_dv]
  generalize V h 8 / 2 ^ (32 * (k / 4)) = Y
  have cs : k % 4 = 0 ∨ k % 4 = 1 ∨ k % 4 = 2 ∨ k % 4 = 3 := by omega
  rcases cs with g | g | g | g <;> rw [g] <;> omega
set_option maxHeartbeats 400000 in
theorem v_byteOf (fu : Nat) (h : Nat → Int32) {k : Nat} (hk : k < 32) : x_M_byteOf fu h (nI k) = some (nI (V h 8 / 2 ^ (8 * k) % 256)) := by
  unfold x_M_byteOf
  have hs : ∀ r, r < 4 → ((((8 : Int32) * nI r).toUInt32 &&& Int32.toUInt32 31).toBitVec % 32).toNat = 8 * r := by decide
  rw [if_pos (show (0 : Int32) ≤ nI k from nI_le (a := 0) (by omega) (by omega)), bnd_q, show nI k / (4 : Int32) = nI (k / 4) from pk_div (d := 4) (by omega) (by decide) (by decide), gd_t (inb_nI (by omega) (by decide)), bnd_q, nI_clamp (by omega), bnd_q]
  rw [show nI k - nI (k / 4) * (4 : Int32) = nI (k % 4) from by rw [← pk_div (d := 4) (a := k) (by omega) (by decide) (by decide)]; exact pk_rem (d := 4) (by omega) (by decide) (by decide)]
  rw [bnd_q]
  have e : (((h (k / 4)).toUInt32 >>> (((8 : Int32) * nI (k % 4)).toUInt32 &&& Int32.toUInt32 31)).toInt32 &&& (255 : Int32)) = nI (V h 8 / 2 ^ (8 * k) % 256) := by
    rw [pk_and _ 8 (by decide), pk_ushr _ _ (8 * (k % 4)) (hs _ (by omega)), ← V_byte h hk]
    rfl
  rw [e]
set_option maxHeartbeats 400000 in
theorem bit23 {M : Nat} (h : M < 2 ^ 24) : nI M &&& (8388608 : Int32) = 0 ↔ M < 8388608 := by
  have e : nI M &&& (8388608 : Int32) = 0 ↔ M &&& 8388608 = 0 := by
    constructor
    · intro q
      have : (nI M &&& (8388608 : Int32)).toBitVec.toNat = 0 := by rw [q]; rfl
      have h2 : (nI M &&& (8388608 : Int32)).toBitVec.toNat = (nI M).toBitVec.toNat &&& 8388608 := by
        show ((nI M).toBitVec &&& 8388608#32).toNat = _
        rw [BitVec.toNat_and]
        rfl
      rw [h2, pk_tn (by omega)] at this
      exact this
    · intro q
      apply U_inj
      show ((nI M).toBitVec &&& 8388608#32).toNat = 0
      rw [BitVec.toNat_and, pk_tn (by omega)]
      exact q
  rw [e]
  constructor
  · intro q
    apply Classical.byContradiction
    intro g
    have h1 : (M &&& 8388608).testBit 23 = true := by
      rw [Nat.testBit_and, show (8388608 : Nat) = 2 ^ 23 from rfl, Nat.testBit_two_pow_self, Bool.and_true]
      rw [Nat.testBit_eq_decide_div_mod_eq]
      apply decide_eq_true
      omega
    rw [q, Nat.zero_testBit] at h1
    exact Bool.noConfusion h1
  · intro g
    apply Nat.eq_of_testBit_eq
    intro i
    rw [Nat.testBit_and, show (8388608 : Nat) = 2 ^ 23 from rfl, Nat.testBit_two_pow, Nat.zero_testBit]
    by_cases hi : 23 = i
    · subst hi
      rw [Nat.testBit_lt_two_pow (by omega)]
      rfl
    · rw [decide_eq_false hi, Bool.and_false]
set_option maxHeartbeats 400000 in
theorem bo_23 (fu : Nat) (h : Nat → Int32) {n : Nat} (hn : 29 ≤ n) (hn2 : n ≤ 32) (h1 : 2 ^ (8 * (n - 1)) ≤ V h 8) (h2 : V h 8 < 2 ^ (8 * n)) (h3 : V h 8 < 2 ^ 255) : ok (xb_M_bitsOf_23 fu h (nI n)) (bsR (V h 8)) := by
  unfold xb_M_bitsOf_23
  have hM : V h 8 / 2 ^ (8 * (n - 3)) < 2 ^ 24 := by
    rw [Nat.div_lt_iff_lt_mul (Nat.pow_pos (by decide)), ← Nat.pow_add, show 24 + 8 * (n - 3) = 8 * n by omega]
    exact h2
  have b0 : V h 8 / 2 ^ (8 * (n - 3)) % 256 < 256 := Nat.mod_lt _ (by decide)
  have b1 : V h 8 / 2 ^ (8 * (n - 2)) % 256 < 256 := Nat.mod_lt _ (by decide)
  have b2 : V h 8 / 2 ^ (8 * (n - 1)) % 256 < 256 := Nat.mod_lt _ (by decide)
  have e1 : V h 8 / 2 ^ (8 * (n - 2)) = V h 8 / 2 ^ (8 * (n - 3)) / 2 ^ 8 := by rw [dv_dv]; congr 2; omega
  have e2 : V h 8 / 2 ^ (8 * (n - 1)) = V h 8 / 2 ^ (8 * (n - 3)) / 2 ^ 16 := by rw [dv_dv]; congr 2; omega
  refine ok_bn (show nI n - (1 : Int32) = nI (n - 1) from pk_sub (b := 1) (by omega)) ?_
  rw [v_byteOf fu h (by omega), bd1_q]
  refine ok_bnd (ok_bn (show nI n - (2 : Int32) = nI (n - 2) from pk_sub (b := 2) (by omega)) ?_)
  rw [v_byteOf fu h (by omega), bd1_q]
  refine ok_bnd (ok_bn (show nI n - (3 : Int32) = nI (n - 3) from pk_sub (b := 3) (by omega)) ?_)
  rw [v_byteOf fu h (by omega), bd1_q]
  have hm : ((nI (V h 8 / 2 ^ (8 * (n - 1)) % 256) <<< ((16 : Int32) &&& 31)) ||| (nI (V h 8 / 2 ^ (8 * (n - 2)) % 256) <<< ((8 : Int32) &&& 31))) ||| nI (V h 8 / 2 ^ (8 * (n - 3)) % 256) = nI (V h 8 / 2 ^ (8 * (n - 3))) := by
    rw [e1] at b1 ⊢
    rw [e2] at b2 ⊢
    generalize V h 8 / 2 ^ (8 * (n - 3)) = M at *
    rw [pk_shlN ((16 : Int32) &&& 31) 16 (by decide) (by omega), pk_shlN ((8 : Int32) &&& 31) 8 (by decide) (by omega), Int32.or_comm (nI (M / 2 ^ 16 % 256 * 2 ^ 16)), nI_or (by omega) (by omega), Int32.or_comm]
    have e3 : M / 2 ^ 8 % 256 * 2 ^ 8 + M / 2 ^ 16 % 256 * 2 ^ 16 = (M / 2 ^ 8) * 2 ^ 8 := by omega
    rw [e3, nI_or (by omega) (by omega)]
    congr 1
    omega
  refine ok_bn hm ?_
  have hc := bit23 hM
  refine ok_ite (fun g => ?_) (fun g => ?_)
  · refine ok_bnd (ok_bnd (ok_some (Or.inl ⟨n, hn, h1, h2, h3, ?_⟩)))
    rw [nI_24 (by omega) hM]
    unfold cpB
    rw [if_pos (hc.mp g)]
  · have g := fun q => g (hc.mpr q)
    refine ok_bn (pk_shrN (by omega) ((8 : Int32) &&& 31) 8 (by decide)) (ok_bnd (ok_bnd (ok_bnd (ok_some (Or.inl ⟨n, hn, h1, h2, h3, ?_⟩)))))
    rw [nI_1, nI_24 (by omega) (by omega)]
    unfold cpB
    rw [if_neg g]
set_option maxHeartbeats 400000 in
theorem l_bo3 (fu : Nat) (h : Nat → Int32) (hlo : 2 ^ 224 ≤ V h 8) (h3 : V h 8 < 2 ^ 255) : ∀ k n, k ≤ 4 → k < n → V h 8 < 2 ^ (8 * (28 + k)) → ok (x_M_bitsOf_3 fu h n (nI (28 + k))) (bsR (V h 8)) := by
  intro k
  induction k with
  | zero =>
    intro n _ _ hX
    omega
  | succ k ih =>
    intro n hk hn hX
    obtain ⟨n, rfl⟩ : ∃ m, n = m + 1 := ⟨n - 1, by omega⟩
    show ok (xb_M_bitsOf_3 fu h (x_M_bitsOf_3 fu h n) (nI (28 + (k + 1)))) _
    unfold xb_M_bitsOf_3
    refine ok_f (show ¬ nI (28 + (k + 1)) ≤ (0 : Int32) from nI_ge (a := 0) (by omega) (by omega)) (ok_bn (show nI (28 + (k + 1)) - (1 : Int32) = nI (28 + k) from pk_sub (b := 1) (by omega)) ?_)
    rw [v_byteOf fu h (by omega), bd1_q]
    have hlt : V h 8 / 2 ^ (8 * (28 + k)) < 256 := by
      rw [Nat.div_lt_iff_lt_mul (Nat.pow_pos (by decide)), show 256 * 2 ^ (8 * (28 + k)) = 2 ^ (8 * (28 + (k + 1))) from by rw [show 8 * (28 + (k + 1)) = 8 + 8 * (28 + k) by omega, Nat.pow_add]]
      exact hX
    rw [Nat.mod_eq_of_lt hlt]
    refine ok_ite (fun g => ?_) (fun g => ?_)
    · have g0 : V h 8 / 2 ^ (8 * (28 + k)) = 0 := (nI_eq (b := 0) (by omega) (by decide)).mp g
      refine ok_bn (show nI (28 + (k + 1)) + (-1 : Int32) = nI (28 + k) from pk_m1 (28 + k)) (ih n (by omega) (by omega) ?_)
      exact (Nat.div_eq_zero_iff_lt (Nat.pow_pos (by decide))).mp g0
    · refine bo_23 fu h (by omega) (by omega) ?_ hX h3
      rw [show 28 + (k + 1) - 1 = 28 + k by omega]
      apply Classical.byContradiction
      intro q
      exact g (by rw [Nat.div_eq_of_lt (by omega)]; rfl)
set_option maxHeartbeats 400000 in
theorem v_bitsOf (fu : Nat) (hfu : 9 ≤ fu) (h : Nat → Int32) (hlo : 2 ^ 224 ≤ V h 8) (h3 : V h 8 < 2 ^ 255) : ok (x_M_bitsOf fu h) (bsR (V h 8)) := by
  unfold x_M_bitsOf
  exact l_bo3 fu h hlo h3 4 fu (by omega) (by omega) (Nat.lt_trans h3 (by decide))
set_option maxHeartbeats 400000 in
theorem bs_lim {X : Nat} (h1 : 8388607 * 2 ^ 232 ≤ X) (h2 : X < 2 ^ 255) : bsR X 545259519 := by
  refine Or.inl ⟨32, by decide, Nat.le_trans (by decide) h1, Nat.lt_trans h2 (by decide), h2, ?_⟩
  have e : X / 2 ^ (8 * (32 - 3)) = 8388607 := by
    apply Nat.div_eq_of_lt_le
    · exact h1
    · exact h2
  unfold cpB
  rw [e]
  rfl
set_option maxHeartbeats 400000 in
theorem V_7 (h : Nat → Int32) : V h 8 = V h 7 + U (h 7) * 2 ^ 224 := V_s h 7
set_option maxHeartbeats 400000 in
theorem l_wa250 (fu : Nat) (hfu : 9 ≤ fu) (z gp gh gt gbi u0 u1 : Nat → Int32) (hlo : 2 ^ 224 ≤ V u1 8) (h3 : V u1 8 < 2 ^ 255) (h7 : U (u1 7) ≤ 2147483392) : ok (xb_M_wanted_250 fu z gp gh gt gbi (0 : Int32) u0 u1) (fun t => bsR (V u1 8) t.1) := by
  unfold xb_M_wanted_250
  have bo : ok (xb_M_wanted_306 fu z gp gh gt gbi (0 : Int32) u0 u1) (fun t => bsR (V u1 8) t.1) := by
    unfold xb_M_wanted_306
    exact ok_t rfl (ok_bd1 (v_bitsOf fu hfu u1 hlo h3) (fun v hv => ok_some hv))
  refine ok_t rfl (ok_bnd ?_)
  show ok (if u1 7 = (2147483392 : Int32) then _ else _) _
  refine ok_ite (fun g => ?_) (fun _ => bo)
  have e7 : U (u1 7) = 2147483392 := by rw [g]; rfl
  have hl : 8388607 * 2 ^ 232 ≤ V u1 8 := by
    rw [V_7, e7]
    have : 8388607 * 2 ^ 232 = 2147483392 * 2 ^ 224 := by decide
    omega
  have lim : ∀ y : Int32, y = 1 → ok (xb_M_wanted_306 fu z gp gh gt gbi y u0 u1) (fun t => bsR (V u1 8) t.1) := by
    intro y hy
    unfold xb_M_wanted_306
    exact ok_f (by rw [hy]; exact one_ne) (ok_some (bs_lim hl h3))
  have lp : ∀ r k n y, k + r = 7 → r < n → (y = 0 ∨ y = 1) → ok (x_M_wanted_273 fu z gp gh gt gbi n y (nI k) u0 u1) (fun t => bsR (V u1 8) t.1) := by
    intro r
    induction r with
    | zero =>
      intro k n y hi hn hy
      obtain ⟨n, rfl⟩ : ∃ m, n = m + 1 := ⟨n - 1, by omega⟩
      have : k = 7 := by omega
      subst this
      show ok (xb_M_wanted_273 fu z gp gh gt gbi (x_M_wanted_273 fu z gp gh gt gbi n) y (nI 7) u0 u1) _
      unfold xb_M_wanted_273
      refine ok_t (by decide) ?_
      rcases hy with rfl | rfl
      · exact bo
      · exact lim 1 rfl
    | succ r ih =>
      intro k n y hi hn hy
      obtain ⟨n, rfl⟩ : ∃ m, n = m + 1 := ⟨n - 1, by omega⟩
      show ok (xb_M_wanted_273 fu z gp gh gt gbi (x_M_wanted_273 fu z gp gh gt gbi n) y (nI k) u0 u1) _
      unfold xb_M_wanted_273 xb_M_wanted_297
      refine ok_f (show ¬ (7 : Int32) ≤ nI k from nI_ge (b := 7) (by omega) (by decide)) (ok_gd (inb_nI (by omega) (by decide)) (ok_bnd (ok_ite (fun _ => ok_bnd (ok_bnd ?_)) (fun _ => ok_bnd (ok_bnd ?_)))))
      · rw [nI_1]
        exact ih (k + 1) n _ (by omega) (by omega) (by rcases hy with rfl | rfl <;> decide)
      · rw [nI_1]
        exact ih (k + 1) n _ (by omega) (by omega) (by rcases hy with rfl | rfl <;> decide)
  exact lp 7 0 fu 0 (by omega) (by omega) (Or.inl rfl)
set_option maxHeartbeats 400000 in
theorem l_wa160a (fu : Nat) (z gp gh gt gbi u0 : Nat → Int32) {c : Nat} (hc : 4800 ≤ c) (hc2 : c < 2 ^ 62) : ∀ k n (x : Int64) u1, k ≤ 8 → k < n → ok (x_M_wanted_160 fu z gp gh gt gbi n (lN c) x (nI k + (-1)) u0 u1) (fun t => t.1 = 545259519) := by
  intro k
  induction k with
  | zero =>
    intro n x u1 hk hn
    obtain ⟨n, rfl⟩ : ∃ m, n = m + 1 := ⟨n - 1, by omega⟩
    show ok (xb_M_wanted_160 fu z gp gh gt gbi (x_M_wanted_160 fu z gp gh gt gbi n) (lN c) x (nI 0 + (-1)) u0 u1) _
    unfold xb_M_wanted_160 xb_M_wanted_245 xb_M_wanted_250 xb_M_wanted_306
    refine ok_t (by decide) (ok_t ((lg_c _ _).2.mpr ?_) (ok_f one_ne (ok_f one_ne (ok_some rfl))))
    rw [lN_I (by omega), show (4800 : Int64).toInt = 4800 from rfl]
    omega
  | succ k ih =>
    intro n x u1 hk hn
    obtain ⟨n, rfl⟩ : ∃ m, n = m + 1 := ⟨n - 1, by omega⟩
    rw [pk_m1]
    show ok (xb_M_wanted_160 fu z gp gh gt gbi (x_M_wanted_160 fu z gp gh gt gbi n) (lN c) x (nI k) u0 u1) _
    unfold xb_M_wanted_160
    have h8 : inb (nI k) 8 = true := inb_nI (by omega) (by decide)
    exact ok_f (nI_pos (by omega)) (ok_bnd (ok_gd h8 (ok_bnd (ok_bnd (ok_bnd (ok_bnd (ok_gd h8 (ok_bnd (ok_bnd (ok_bnd (ih n _ _ (by omega) (by omega)))))))))))) 
set_option maxHeartbeats 400000 in
theorem lN_or2 {L d : Nat} (hL : L < 2 ^ 31) (hd : d < 2 ^ 32) : (lN L <<< ((32 : Int32).toInt64 &&& 63)) ||| lN d = lN (L * 2 ^ 32 + d) := by
  rw [lN_shl ((32 : Int32).toInt64 &&& 63) (k := 32) (by decide), Int64.or_comm, lN_or hd (by omega), Nat.add_comm]
set_option maxHeartbeats 400000 in
theorem l_wa160b (fu : Nat) (hfu : 9 ≤ fu) (z gp gh gt gbi u0 : Nat → Int32) {Y : Nat} (hc : Y / 2 ^ 256 < 4800) (hlo : 2 ^ 224 ≤ Y / 4800) : ∀ k n u1, k ≤ 8 → k < n → V u1 k = Y % 2 ^ (32 * k) → V (fun j => u1 (k + j)) (8 - k) = Y / 2 ^ (32 * k) / 4800 → ok (x_M_wanted_160 fu z gp gh gt gbi n (lN (Y / 2 ^ 256)) (lN (Y / 2 ^ (32 * k) % 4800)) (nI k + (-1)) u0 u1) (fun t => bsR (Y / 4800) t.1) := by
  intro k
  induction k with
  | zero =>
    intro n u1 hk hn hL hH
    obtain ⟨n, rfl⟩ : ∃ m, n = m + 1 := ⟨n - 1, by omega⟩
    have hX : V u1 8 = Y / 4800 := by
      rw [Nat.mul_zero, Nat.pow_zero, Nat.div_one] at hH
      rw [← hH]
      exact V_c (fun j _ => by rw [Nat.zero_add])
    show ok (xb_M_wanted_160 fu z gp gh gt gbi (x_M_wanted_160 fu z gp gh gt gbi n) (lN (Y / 2 ^ 256)) (lN (Y / 2 ^ (32 * 0) % 4800)) (nI 0 + (-1)) u0 u1) _
    unfold xb_M_wanted_160
    refine ok_t (by decide) (ok_f (fun q => ?_) (ok_bnd ?_))
    · have := (lg_c _ _).2.mp q
      rw [lN_I (by omega), show (4800 : Int64).toInt = 4800 from rfl] at this
      omega
    rw [← hX] at hlo ⊢
    have h7 := V_7 u1
    have hl7 : V u1 7 < 2 ^ 224 := V_lt u1 7
    have hu7 := U_lt (u1 7)
    have lim : ∀ w, bsR (V u1 8) 545259519 → ok (xb_M_wanted_245 fu z gp gh gt gbi u0 w) (fun t => bsR (V u1 8) t.1) := by
      intro w hw
      unfold xb_M_wanted_245 xb_M_wanted_250 xb_M_wanted_306
      exact ok_f one_ne (ok_f one_ne (ok_some hw))
    have ng : u1 7 < 0 ↔ 2 ^ 31 ≤ U (u1 7) := by
      rw [Int32.lt_iff_toInt_lt, i_toInt, show (0 : Int32).toInt = 0 from rfl]
      split <;> omega
    show ok (if u1 7 < 0 then _ else _) _
    refine ok_ite (fun g => lim _ (Or.inr ⟨?_, rfl⟩)) (fun g => ok_bnd ?_)
    · have g := ng.mp g
      rw [h7]
      generalize V u1 7 = A at *
      generalize U (u1 7) = B at *
      omega
    · have g : U (u1 7) < 2 ^ 31 := Nat.lt_of_not_le (fun q => g (ng.mpr q))
      have h255 : V u1 8 < 2 ^ 255 := by
        rw [h7]
        generalize V u1 7 = A at *
        generalize U (u1 7) = B at *
        omega
      have hle : u1 7 ≤ (2147483392 : Int32) ↔ U (u1 7) ≤ 2147483392 := by
        rw [Int32.le_iff_toInt_le, i_toInt, if_pos g, show (2147483392 : Int32).toInt = 2147483392 from rfl]
        omega
      show ok (if u1 7 ≤ (2147483392 : Int32) then _ else _) _
      refine ok_ite (fun g2 => l_wa250 fu hfu z gp gh gt gbi u0 u1 hlo h255 (hle.mp g2)) (fun g2 => lim _ (bs_lim ?_ h255))
      have g2 : 2147483392 < U (u1 7) := Nat.lt_of_not_le (fun q => g2 (hle.mpr q))
      have e : 8388607 * 2 ^ 232 = 2147483392 * 2 ^ 224 := by decide
      rw [h7, e]
      generalize V u1 7 = A at *
      generalize U (u1 7) = B at *
      omega
  | succ k ih =>
    intro n u1 hk hn hL hH
    obtain ⟨n, rfl⟩ : ∃ m, n = m + 1 := ⟨n - 1, by omega⟩
    rw [pk_m1]
    show ok (xb_M_wanted_160 fu z gp gh gt gbi (x_M_wanted_160 fu z gp gh gt gbi n) (lN (Y / 2 ^ 256)) (lN (Y / 2 ^ (32 * (k + 1)) % 4800)) (nI k) u0 u1) _
    unfold xb_M_wanted_160
    have h8 : inb (nI k) 8 = true := inb_nI (by omega) (by decide)
    -- the digit
    have hA : 0 < 2 ^ (32 * k) := Nat.pow_pos (by decide)
    have hsp : Y % 2 ^ (32 * (k + 1)) = Y % 2 ^ (32 * k) + 2 ^ (32 * k) * (Y / 2 ^ (32 * k) % 2 ^ 32) := by
      rw [show 32 * (k + 1) = 32 * k + 32 by omega, Nat.pow_add, Nat.mod_mul]
    rw [V_s, hsp] at hL
    have hVk := V_lt u1 k
    have hYm := Nat.mod_lt Y hA
    have hd : U (u1 k) = Y / 2 ^ (32 * k) % 2 ^ 32 ∧ V u1 k = Y % 2 ^ (32 * k) := by
      have h1 := congrArg (fun n => n % 2 ^ (32 * k)) hL
      simp only [Nat.add_mul_mod_self_right, Nat.add_mul_mod_self_left] at h1
      rw [Nat.mod_eq_of_lt hVk, Nat.mod_mod] at h1
      refine ⟨?_, h1⟩
      rw [h1, Nat.mul_comm (U (u1 k))] at hL
      exact Nat.eq_of_mul_eq_mul_left hA (Nat.add_left_cancel hL)
    have hZ : Y / 2 ^ (32 * k) = Y / 2 ^ (32 * (k + 1)) * 2 ^ 32 + U (u1 k) := by
      rw [hd.1, show 32 * (k + 1) = 32 * k + 32 by omega, ← dv_dv]
      have := Nat.div_add_mod (Y / 2 ^ (32 * k)) (2 ^ 32)
      rw [Nat.mul_comm] at this
      exact this.symm
    have hLl : Y / 2 ^ (32 * (k + 1)) % 4800 < 4800 := Nat.mod_lt _ (by decide)
    have hZ2 := Nat.div_add_mod (Y / 2 ^ (32 * (k + 1))) 4800
    have hu := U_lt (u1 k)
    obtain ⟨Z, hZe⟩ : ∃ Z, Z = Y / 2 ^ (32 * (k + 1)) := ⟨_, rfl⟩
    rw [← hZe] at hZ hLl hZ2 hH ⊢
    obtain ⟨L, hLe⟩ : ∃ L, L = Z % 4800 := ⟨_, rfl⟩
    obtain ⟨Q, hQe⟩ : ∃ Q, Q = Z / 4800 := ⟨_, rfl⟩
    rw [← hLe] at hLl hZ2 ⊢
    rw [← hQe] at hZ2 hH
    have hD : (L * 2 ^ 32 + U (u1 k)) / 4800 < 2 ^ 32 := by
      rw [Nat.div_lt_iff_lt_mul (by decide)]
      omega
    have hZ3 : Y / 2 ^ (32 * k) = 4800 * (Q * 2 ^ 32) + (L * 2 ^ 32 + U (u1 k)) := by
      rw [hZ, ← hZ2]
      omega
    have hq : Y / 2 ^ (32 * k) / 4800 = Q * 2 ^ 32 + (L * 2 ^ 32 + U (u1 k)) / 4800 := by
      rw [hZ3, Nat.mul_add_div (by decide)]
    have hm : Y / 2 ^ (32 * k) % 4800 = (L * 2 ^ 32 + U (u1 k)) % 4800 := by
      rw [hZ3, Nat.mul_add_mod]
    refine ok_f (nI_pos (by omega)) (ok_bnd (ok_gd h8 (ok_bnd (ok_bnd ?_))))
    rw [nI_clamp (n := k) (by omega), l_mask]
    refine ok_bn (lN_or2 (by omega) hu) ?_
    have e1 : lN (L * 2 ^ 32 + U (u1 k)) / (4800 : Int64) = lN ((L * 2 ^ 32 + U (u1 k)) / 4800) := pk_lDiv (b := 4800) (by omega) (by decide) (by decide)
    have e2 : lN (L * 2 ^ 32 + U (u1 k)) - lN (L * 2 ^ 32 + U (u1 k)) / (4800 : Int64) * (4800 : Int64) = lN ((L * 2 ^ 32 + U (u1 k)) % 4800) := pk_lRem (b := 4800) (by omega) (by decide) (by decide)
    rw [e2, e1, iN_l]
    refine ok_bnd (ok_gd h8 (ok_bnd (ok_bnd (ok_bnd ?_))))
    rw [← hm]
    refine ih n _ (by omega) (by omega) ?_ ?_
    · rw [V_u _ _ _ _ (Nat.le_refl _)]
      exact hd.2
    · rw [show 8 - k = 1 + (8 - (k + 1)) by omega, V_add]
      have e3 : V (fun j => upd u1 k (nI ((L * 2 ^ 32 + U (u1 k)) / 4800)) (k + j)) 1 = (L * 2 ^ 32 + U (u1 k)) / 4800 := by
        show 0 + U (upd u1 k (nI ((L * 2 ^ 32 + U (u1 k)) / 4800)) (k + 0)) * 2 ^ (32 * 0) = _
        rw [Nat.add_zero, pk_us, U_nI hD, Nat.mul_zero, Nat.pow_zero, Nat.mul_one, Nat.zero_add]
      have e4 : V (fun j => upd u1 k (nI ((L * 2 ^ 32 + U (u1 k)) / 4800)) (k + (1 + j))) (8 - (k + 1)) = Q := by
        rw [← hH]
        exact V_c (fun j _ => by rw [pk_un (by omega)]; congr 1; omega)
      rw [e3, e4, hq]
      omega
set_option maxHeartbeats 400000 in
/-- the reference's next target, behind the times -/
theorem l_wa102 (fu : Nat) (hfu : 9 ≤ fu) (z gp gh gt gbi u0 : Nat → Int32) {t : Nat} (ht : t ≤ 19200) (hlo : 2 ^ 224 ≤ V u0 8 * t / 4800) : ∀ r k n c u1, k + r = 8 → r < n → c ≤ t → V u1 k + c * 2 ^ (32 * k) = V u0 k * t → ok (x_M_wanted_102 fu z gp gh gt gbi n (lN t) (lN c) (nI k) u0 u1) (fun r => bsR (V u0 8 * t / 4800) r.1) := by
  intro r
  induction r with
  | zero =>
    intro k n c u1 hi hn hc h
    obtain ⟨n, rfl⟩ : ∃ m, n = m + 1 := ⟨n - 1, by omega⟩
    have : k = 8 := by omega
    subst this
    have h8 := V8_lt u1
    have hc' : V u0 8 * t / 2 ^ 256 = c := by
      rw [← h]
      exact Nat.div_eq_of_lt_le (by omega) (by rw [Nat.add_mul, Nat.one_mul]; omega)
    have hm' : V u0 8 * t % 2 ^ 256 = V u1 8 := by
      rw [← h]
      show (V u1 8 + c * 2 ^ 256) % 2 ^ 256 = _
      rw [Nat.add_mul_mod_self_right, Nat.mod_eq_of_lt h8]
    show ok (xb_M_wanted_102 fu z gp gh gt gbi (x_M_wanted_102 fu z gp gh gt gbi n) (lN t) (lN c) (nI 8) u0 u1) _
    unfold xb_M_wanted_102
    refine ok_t (by decide) ?_
    rw [show (7 : Int32) = nI 8 + (-1) by decide]
    by_cases g : 4800 ≤ c
    · refine ok_mono (l_wa160a fu z gp gh gt gbi u0 g (by omega) 8 fu _ u1 (by omega) (by omega)) (fun r hr => ?_)
      rw [hr]
      refine Or.inr ⟨?_, rfl⟩
      rw [Nat.le_div_iff_mul_le (by decide), ← h]
      have : 4800 * 2 ^ 256 ≤ c * 2 ^ 256 := Nat.mul_le_mul_right _ g
      have e : (2 : Nat) ^ (32 * 8) = 2 ^ 256 := rfl
      rw [e]
      exact Nat.le_trans (show 2 ^ 255 * 4800 ≤ 4800 * 2 ^ 256 by decide) (Nat.le_trans this (Nat.le_add_left _ _))
    · obtain ⟨Y, hY⟩ : ∃ Y, Y = V u0 8 * t := ⟨_, rfl⟩
      rw [← hY] at hc' hm' hlo ⊢
      have := l_wa160b fu hfu z gp gh gt gbi u0 (Y := Y) (by rw [hc']; omega) hlo 8 fu u1 (Nat.le_refl _) (by omega) hm'.symm (by
        show 0 = Y / 2 ^ 256 / 4800
        rw [hc', Nat.div_eq_of_lt (by omega)])
      have e8 : (2 : Nat) ^ (32 * 8) = 2 ^ 256 := rfl
      rw [e8, hc', Nat.mod_eq_of_lt (by omega)] at this
      exact this
  | succ r ih =>
    intro k n c u1 hi hn hc h
    obtain ⟨n, rfl⟩ : ∃ m, n = m + 1 := ⟨n - 1, by omega⟩
    show ok (xb_M_wanted_102 fu z gp gh gt gbi (x_M_wanted_102 fu z gp gh gt gbi n) (lN t) (lN c) (nI k) u0 u1) _
    unfold xb_M_wanted_102
    have h8 : inb (nI k) 8 = true := inb_nI (by omega) (by decide)
    have hu := U_lt (u0 k)
    have hut : U (u0 k) * t ≤ (2 ^ 32 - 1) * t := Nat.mul_le_mul_right t (by omega)
    have hut2 : (2 ^ 32 - 1) * t ≤ (2 ^ 32 - 1) * 19200 := Nat.mul_le_mul_left _ ht
    refine ok_f (show ¬ (8 : Int32) ≤ nI k from nI_ge (b := 8) (by omega) (by decide)) (ok_gd h8 (ok_bnd (ok_bnd (ok_bnd ?_))))
    rw [nI_clamp (n := k) (by omega), l_mask, lN_m, lN_a]
    refine ok_bnd (ok_bnd (ok_gd h8 (ok_bnd ?_)))
    rw [iN_l, l_shr (by omega), nI_1]
    refine ok_bnd (ok_bnd (ih (k + 1) n _ _ (by omega) (by omega) ?_ ?_))
    · rw [Nat.div_le_iff_le_mul_add_pred (by decide)]
      omega
    · rw [V_s, V_u _ _ _ _ (Nat.le_refl _), pk_us, U_mod, V_s, Nat.add_mul, ← h, show 32 * (k + 1) = 32 + 32 * k by omega, Nat.pow_add]
      have hdm := Nat.div_add_mod (c + U (u0 k) * t) (2 ^ 32)
      have e5 : (c + U (u0 k) * t) % 2 ^ 32 * 2 ^ (32 * k) + (c + U (u0 k) * t) / 2 ^ 32 * (2 ^ 32 * 2 ^ (32 * k)) = (c + U (u0 k) * t) * 2 ^ (32 * k) := by
        rw [← Nat.mul_assoc, ← Nat.add_mul]
        congr 1
        omega
      rw [Nat.add_assoc, e5, Nat.add_mul, ← Nat.add_assoc, Nat.mul_right_comm (U (u0 k))]
