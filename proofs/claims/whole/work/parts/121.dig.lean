-- bits of a number in limbs
set_option maxHeartbeats 200000 in
theorem nv_l {h : Nat → Int64} {v l : Nat} (hv : nv h v) (hl : l < 5) : ∃ R, v / 2 ^ (52 * l) = (h l).toInt.toNat + 2 ^ 52 * R ∧ (l = 4 → R = 0) ∧ (l < 4 → ∃ R', R = (h (l + 1)).toInt.toNat + 2 ^ 52 * R') := by
  obtain ⟨hn, hw⟩ := hv
  rw [Wv_5] at hw
  have a0 := hn 0 (by decide)
  have a1 := hn 1 (by decide)
  have a2 := hn 2 (by decide)
  have a3 := hn 3 (by decide)
  have a4 := hn 4 (by decide)
  generalize hx0 : (h 0).toInt = x0 at *
  generalize hx1 : (h 1).toInt = x1 at *
  generalize hx2 : (h 2).toInt = x2 at *
  generalize hx3 : (h 3).toInt = x3 at *
  generalize hx4 : (h 4).toInt = x4 at *
  have : l = 0 ∨ l = 1 ∨ l = 2 ∨ l = 3 ∨ l = 4 := by omega
  rcases this with rfl | rfl | rfl | rfl | rfl
  · refine ⟨x1.toNat + 2 ^ 52 * (x2.toNat + 2 ^ 52 * (x3.toNat + 2 ^ 52 * x4.toNat)), ?_, fun q => absurd q (by decide), fun _ => ⟨_, by rw [hx1]⟩⟩
    rw [hx0]
    omega
  · refine ⟨x2.toNat + 2 ^ 52 * (x3.toNat + 2 ^ 52 * x4.toNat), ?_, fun q => absurd q (by decide), fun _ => ⟨_, by rw [hx2]⟩⟩
    rw [hx1]
    omega
  · refine ⟨x3.toNat + 2 ^ 52 * x4.toNat, ?_, fun q => absurd q (by decide), fun _ => ⟨_, by rw [hx3]⟩⟩
    rw [hx2]
    omega
  · refine ⟨x4.toNat, ?_, fun q => absurd q (by decide), fun _ => ⟨0, by rw [hx4, Nat.mul_zero, Nat.add_zero]⟩⟩
    rw [hx3]
    omega
  · refine ⟨0, ?_, fun _ => rfl, fun q => absurd q (by decide)⟩
    rw [hx4]
    omega
set_option maxHeartbeats 200000 in
theorem bt_1 {x s R m : Nat} (hs : s + m ≤ 52) : (x + 2 ^ 52 * R) / 2 ^ s % 2 ^ m = x / 2 ^ s % 2 ^ m := by
  have e : 2 ^ 52 * R = 2 ^ s * (2 ^ m * (2 ^ (52 - s - m) * R)) := by
    rw [← Nat.mul_assoc, ← Nat.mul_assoc, ← Nat.pow_add, ← Nat.pow_add]
    congr 2
    omega
  rw [e, Nat.add_mul_div_left _ _ (Nat.two_pow_pos s), Nat.add_mul_mod_self_left]
set_option maxHeartbeats 200000 in
theorem bt_2 {x y s R m : Nat} (hs : s ≤ 52) (hm : m ≤ 5) (h : 52 < s + m) : (x + 2 ^ 52 * (y + 2 ^ 52 * R)) / 2 ^ s % 2 ^ m = (x / 2 ^ s + y * 2 ^ (52 - s)) % 2 ^ m := by
  have e : 2 ^ 52 * (y + 2 ^ 52 * R) = 2 ^ s * (y * 2 ^ (52 - s) + 2 ^ m * (2 ^ (52 + 52 - s - m) * R)) := by
    rw [Nat.mul_add, Nat.mul_add]
    congr 1
    · rw [Nat.mul_left_comm, ← Nat.pow_add, Nat.mul_comm]
      congr 2
      omega
    · rw [← Nat.mul_assoc, ← Nat.mul_assoc, ← Nat.mul_assoc, ← Nat.pow_add, ← Nat.pow_add, ← Nat.pow_add]
      congr 2
      omega
  rw [e, Nat.add_mul_div_left _ _ (Nat.two_pow_pos s), ← Nat.add_assoc, Nat.add_mul_mod_self_left]
set_option maxHeartbeats 200000 in
theorem v_Sc_bits60 (fu : Nat) (h0 : Nat → Int64) {m : Nat} (hm : m = 1 ∨ m = 5) (n : Nat) : xb_Sc_bits_60 fu h0 (nI m) (lN n) = some (nI (n % 2 ^ m)) := by
  unfold xb_Sc_bits_60
  rw [bnd_q, bnd_q, bnd_q, lN_i]
  rcases hm with rfl | rfl
  · have e : ((1 : Int32) <<< (nI 1 &&& 31)) - (1 : Int32) = 1 := by decide
    rw [e, pk_and (nI n) (m := 1) 1 (by decide)]
    show some (nI (U (nI n) % 2 ^ 1)) = _
    rw [U_mod]
    congr 2
    omega
  · have e : ((1 : Int32) <<< (nI 5 &&& 31)) - (1 : Int32) = 31 := by decide
    rw [e, pk_and (nI n) (m := 31) 5 (by decide)]
    show some (nI (U (nI n) % 2 ^ 5)) = _
    rw [U_mod]
    congr 2
    omega
set_option maxHeartbeats 200000 in
theorem v_Sc_bits (fu : Nat) (h0 : Nat → Int64) {v : Nat} (hv : nv h0 v) {k m : Nat} (hk : k ≤ 256) (hm : m = 1 ∨ m = 5) : x_Sc_bits fu h0 (nI k) (nI m) = some (nI (v / 2 ^ k % 2 ^ m)) := by
  unfold x_Sc_bits
  have e1 : nI k / (52 : Int32) = nI (k / 52) := pk_div (d := 52) (by omega) (by decide) (by decide)
  have e2 : nI k - nI k / (52 : Int32) * (52 : Int32) = nI (k % 52) := pk_rem (d := 52) (by omega) (by decide) (by decide)
  have hl : k / 52 < 5 := by omega
  obtain ⟨R, hR, hR4, hRl⟩ := nv_l hv hl
  have hx := hv.1 (k / 52) hl
  have hm5 : m ≤ 5 := by omega
  have hval : v / 2 ^ k = v / 2 ^ (52 * (k / 52)) / 2 ^ (k % 52) := by
    rw [Nat.div_div_eq_div_mul, ← Nat.pow_add]
    congr 2
    omega
  rw [bnd_q, bnd_q, e2, e1, if_neg (show ¬ (5 : Int32) ≤ nI (k / 52) from nI_ge (b := 5) hl (by decide)), gd_t (inb_nI hl (by decide)), bnd_q, nI_clamp (by omega), hval, hR]
  generalize hX : (h0 (k / 52)).toInt.toNat = X at *
  have hs : h0 (k / 52) >>> ((nI (k % 52)).toInt64 &&& 63) = lN (X / 2 ^ (k % 52)) := by
    apply Int64.toInt_inj.mp
    rw [l_shr_i _ (k % 52) (shl_n (k % 52) (by omega)), pk_lT (Nat.lt_of_le_of_lt (Nat.div_le_self _ _) (by omega)), ← hX]
    have e3 : ((2 : Int) ^ (k % 52)) = ((2 ^ (k % 52) : Nat) : Int) := by rw [Int.natCast_pow]; rfl
    rw [e3, Int.natCast_ediv]
    congr 1
    omega
  rw [hs]
  unfold xb_Sc_bits_26
  rw [bnd_q, nI_add]
  by_cases g : k % 52 + m ≤ 52
  · rw [if_pos (show nI (k % 52 + m) ≤ (52 : Int32) from nI_le (b := 52) g (by decide)), v_Sc_bits60 fu h0 hm, bt_1 g]
  · rw [if_neg (show ¬ nI (k % 52 + m) ≤ (52 : Int32) from nI_ge (a := 52) (by omega) (by omega)), bnd_q, nI_1]
    by_cases g4 : k / 52 = 4
    · rw [if_pos (show (5 : Int32) ≤ nI (k / 52 + 1) from by rw [g4]; decide), v_Sc_bits60 fu h0 hm, hR4 g4, Nat.mul_zero, Nat.add_zero]
    · rw [if_neg (show ¬ (5 : Int32) ≤ nI (k / 52 + 1) from nI_ge (b := 5) (by omega) (by decide)), bnd_q, gd_t (inb_nI (by omega) (by decide)), bnd_q, bnd_q, nI_clamp (by omega)]
      obtain ⟨R', hR'⟩ := hRl (by omega)
      have hy := hv.1 (k / 52 + 1) (by omega)
      obtain ⟨ey, -⟩ := l_nn hy.1
      rw [hR', bt_2 (by omega) hm5 (by omega)]
      generalize hY : (h0 (k / 52 + 1)).toInt.toNat = Y at *
      have hYl : Y < 2 ^ 52 := by omega
      rw [ey, show (52 : Int32) - nI (k % 52) = nI (52 - k % 52) from pk_sub (a := 52) (by omega), lN_shl (k := 52 - k % 52) _ (shl_n _ (by omega)), lN_or (i := 52 - k % 52), v_Sc_bits60 fu h0 hm]
      · rw [Nat.div_lt_iff_lt_mul (Nat.two_pow_pos _), ← Nat.pow_add, show 52 - k % 52 + k % 52 = 52 by omega]
        omega
      · have h1 : 2 ^ (52 - k % 52) ≤ 2 ^ 5 := Nat.pow_le_pow_right (by decide) (by omega)
        have h2 : Y * 2 ^ (52 - k % 52) ≤ Y * 2 ^ 5 := Nat.mul_le_mul_left Y h1
        have h3 : X / 2 ^ (k % 52) ≤ X := Nat.div_le_self _ _
        generalize Y * 2 ^ (52 - k % 52) = Z at *
        generalize X / 2 ^ (k % 52) = Q at *
        omega
-- digits
def dS (d : Nat → Int32) : Nat → Int
  | 0 => 0
  | n + 1 => dS d n + (d n).toInt * 2 ^ n
set_option maxHeartbeats 200000 in
theorem dS_s (d : Nat → Int32) (n : Nat) : dS d (n + 1) = dS d n + (d n).toInt * 2 ^ n := rfl
set_option maxHeartbeats 200000 in
theorem dS_c {d e : Nat → Int32} : ∀ {n}, (∀ j, j < n → d j = e j) → dS d n = dS e n
  | 0, _ => rfl
  | n + 1, h => by rw [dS_s, dS_s, dS_c (n := n) (fun j hj => h j (by omega)), h n (by omega)]
set_option maxHeartbeats 200000 in
theorem dS_z (d : Nat → Int32) (n : Nat) : ∀ k, (∀ j, n ≤ j → j < n + k → d j = 0) → dS d (n + k) = dS d n
  | 0, _ => rfl
  | k + 1, h => by
    rw [show n + (k + 1) = n + k + 1 by omega, dS_s, dS_z d n k (fun j a b => h j a (by omega)), h (n + k) (by omega) (by omega)]
    show _ + 0 * _ = _
    omega
/-- 0, or odd and within 15 -/
def dg (x : Int32) : Prop := -15 ≤ x.toInt ∧ x.toInt ≤ 15 ∧ (x.toInt = 0 ∨ x.toInt % 2 = 1)
def wI (v b c : Nat) (u : Nat → Int32) : Prop := c ≤ 1 ∧ b ≤ 261 ∧ (v : Int) = dS u b + 2 ^ b * ((v / 2 ^ b : Nat) + c) ∧ (∀ i, dg (u i)) ∧ (∀ i, b ≤ i ∨ 257 ≤ i → u i = 0) ∧ (256 < b → c = 0)
set_option maxHeartbeats 200000 in
theorem dg_0 : dg 0 := by unfold dg; decide
set_option maxHeartbeats 200000 in
theorem w_A {v b c : Nat} {u : Nat → Int32} (hv : v < 2 ^ 256) (hb : b ≤ 256) (h : wI v b c u) (hc : v / 2 ^ b % 2 = c) : wI v (b + 1) c u := by
  obtain ⟨h1, h2, h3, h4, h5, h6⟩ := h
  refine ⟨h1, by omega, ?_, h4, fun i hi => h5 i (by omega), fun g => ?_⟩
  · rw [dS_s, h5 b (Or.inl (Nat.le_refl b)), show (0 : Int32).toInt = 0 from rfl, Int.zero_mul, Int.add_zero]
    have e : v / 2 ^ (b + 1) = v / 2 ^ b / 2 := by rw [Nat.pow_succ, Nat.div_div_eq_div_mul]
    rw [e]
    have e2 : (2 : Int) ^ (b + 1) = 2 ^ b * 2 := Int.pow_succ 2 b
    rw [e2, Int.mul_assoc]
    have e3 : (2 : Int) * (((v / 2 ^ b / 2 : Nat) : Int) + (c : Int)) = ((v / 2 ^ b : Nat) : Int) + (c : Int) := by
      generalize v / 2 ^ b = q at *
      omega
    rw [e3]
    exact h3
  · have e : b = 256 := by omega
    rw [e, Nat.div_eq_of_lt hv] at hc
    exact hc.symm
set_option maxHeartbeats 200000 in
theorem w_B1 {m c : Nat} (hm : m < 32) (hc : c ≤ 1) (hne : m % 2 ≠ c) : (m + c) % 2 = 1 ∧ m + c ≤ 31 := by
  rcases c_01 hc with rfl | rfl <;> omega
set_option maxHeartbeats 200000 in
theorem i_nI {n : Nat} (h : n < 2 ^ 31) : (nI n).toInt = n := nI_toInt h
set_option maxHeartbeats 200000 in
theorem dgv : ∀ d, d < 32 → d % 2 = 1 → ((nI d - (nI (d / 16) <<< ((5 : Int32) &&& 31))).toInt8.toInt32).toInt = (d : Int) - 32 * ((d / 16 : Nat) : Int) ∧ vp_nar .byte ((nI d - (nI (d / 16) <<< ((5 : Int32) &&& 31))).toInt8.toInt32) = ((nI d - (nI (d / 16) <<< ((5 : Int32) &&& 31))).toInt8.toInt32) := by
  intro d hd h1
  refine ⟨?_, pk_vb _⟩
  have : ∀ d, d < 32 → ((nI d - (nI (d / 16) <<< ((5 : Int32) &&& 31))).toInt8.toInt32).toInt = (d : Int) - 32 * ((d / 16 : Nat) : Int) := by decide
  exact this d hd
set_option maxHeartbeats 200000 in
theorem w_B {v b c d : Nat} {u : Nat → Int32} {x : Int32} (hv : v < 2 ^ 256) (hb : b ≤ 256) (h : wI v b c u) (hne : v / 2 ^ b % 2 ≠ c) (hd : d = v / 2 ^ b % 2 ^ 5 + c) (hx : x.toInt = (d : Int) - 32 * ((d / 16 : Nat) : Int)) : d < 32 ∧ d % 2 = 1 ∧ wI v (b + 5) (d / 16) (upd u b x) := by
  obtain ⟨h1, h2, h3, h4, h5, h6⟩ := h
  have hdd := w_B1 (m := v / 2 ^ b % 2 ^ 5) (c := c) (Nat.mod_lt _ (by decide)) h1 (by omega)
  rw [← hd] at hdd
  refine ⟨by omega, hdd.1, by omega, by omega, ?_, fun i => ?_, fun i hi => ?_, fun g => ?_⟩
  · have e0 : dS (upd u b x) (b + 5) = dS u b + x.toInt * 2 ^ b := by
      have e1 := dS_z (upd u b x) (b + 1) 4 (fun j h1 h2 => by rw [pk_un (by omega)]; exact h5 j (Or.inl (by omega)))
      rw [show b + 1 + 4 = b + 5 by omega] at e1
      rw [e1, dS_s, pk_us, dS_c (e := u) (fun j hj => pk_un (by omega))]
    rw [e0, hx]
    have e : v / 2 ^ (b + 5) = v / 2 ^ b / 32 := by rw [Nat.pow_add, ← Nat.div_div_eq_div_mul]
    rw [e]
    have e2 : (2 : Int) ^ (b + 5) = 2 ^ b * 32 := by rw [Int.pow_add]; rfl
    rw [e2, Int.mul_assoc]
    have e3 : ((v / 2 ^ b : Nat) : Int) + (c : Int) = ((d : Int) - 32 * ((d / 16 : Nat) : Int)) + 32 * (((v / 2 ^ b / 32 : Nat) : Int) + ((d / 16 : Nat) : Int)) := by
      rw [hd]
      generalize v / 2 ^ b = q at *
      omega
    rw [e3, Int.mul_add, Int.mul_comm (2 ^ b) ((d : Int) - _)] at h3
    rw [Int.add_assoc]
    exact h3
  · by_cases e : i = b
    · rw [e, pk_us]
      unfold dg
      rw [hx]
      omega
    · rw [pk_un e]; exact h4 i
  · rw [pk_un (by omega)]
    exact h5 i (by omega)
  · have hq : v / 2 ^ b < 16 := by
      rw [Nat.div_lt_iff_lt_mul (Nat.two_pow_pos b)]
      have : 2 ^ 252 ≤ 2 ^ b := Nat.pow_le_pow_right (by decide) (by omega)
      have e : (2 : Nat) ^ 256 = 16 * 2 ^ 252 := by decide
      omega
    have h32 : v / 2 ^ b % 2 ^ 5 = v / 2 ^ b := Nat.mod_eq_of_lt (by omega)
    rw [h32] at hd
    clear h3 hx h32
    generalize v / 2 ^ b = q at *
    have := hdd.1
    omega
set_option maxHeartbeats 200000 in
theorem l_Si_wd (fu : Nat) (h0 : Nat → Int64) {v : Nat} (hv : nv h0 v) (hv2 : v < 2 ^ 256) : ∀ r b c u n, 300 ≤ b + r → r < n → wI v b c u → ok (x_Si_writeDigits_22 fu h0 262 n (nI c) (nI b) u) (fun u => dS u 257 = (v : Int) ∧ (∀ i, dg (u i)) ∧ ∀ i, 262 ≤ i → u i = 0) := by
  intro r
  induction r with
  | zero =>
    intro b c u n hb hn hI
    exact absurd hI.2.1 (by omega)
  | succ r ih =>
    intro b c u n hb hn hI
    obtain ⟨n, rfl⟩ : ∃ m, n = m + 1 := ⟨n - 1, by omega⟩
    show ok (xb_Si_writeDigits_22 fu h0 262 (x_Si_writeDigits_22 fu h0 262 n) (nI c) (nI b) u) _
    unfold xb_Si_writeDigits_22
    have hb2 := hI.2.1
    have hc1 := hI.1
    by_cases g : 257 ≤ b
    · refine ok_t (show (257 : Int32) ≤ nI b from nI_le (a := 257) g (by omega)) (ok_some ⟨?_, hI.2.2.2.1, fun i hi => hI.2.2.2.2.1 i (Or.inr (by omega))⟩)
      have h3 := hI.2.2.1
      have hc := hI.2.2.2.2.2 (by omega)
      have hd0 : v / 2 ^ b = 0 := Nat.div_eq_of_lt (Nat.lt_of_lt_of_le hv2 (Nat.pow_le_pow_right (by decide) (by omega)))
      rw [hc, hd0] at h3
      have e1 := dS_z u 257 (b - 257) (fun j h1 h2 => hI.2.2.2.2.1 j (Or.inr h1))
      rw [show 257 + (b - 257) = b by omega] at e1
      rw [← e1, h3]
      show _ = _ + 2 ^ b * (0 + 0)
      omega
    · refine ok_f (show ¬ (257 : Int32) ≤ nI b from nI_ge (b := 257) (by omega) (by decide)) ?_
      have hs1 := v_Sc_bits fu h0 hv (k := b) (m := 1) (by omega) (Or.inl rfl)
      have hs5 := v_Sc_bits fu h0 hv (k := b) (m := 5) (by omega) (Or.inr rfl)
      rw [show (1 : Int32) = nI 1 from rfl, hs1, bd1_q, ← show (1 : Int32) = nI 1 from rfl]
      by_cases ge : v / 2 ^ b % 2 = c
      · refine ok_t (by rw [Nat.pow_one, ge]) ?_
        rw [nI_1]
        exact ok_bnd (ih (b + 1) c u n (by omega) (by omega) (w_A hv2 (by omega) hI ge))
      · refine ok_f (fun q => ge (by rw [Nat.pow_one] at q; exact (nI_eq (by omega) (by omega)).mp q)) ?_
        rw [show (5 : Int32) = nI 5 from rfl, hs5, bd1_q, nI_add, ← show (5 : Int32) = nI 5 from rfl]
        have hd32 : v / 2 ^ b % 2 ^ 5 + c < 33 := by omega
        generalize hd : v / 2 ^ b % 2 ^ 5 + c = d at *
        have hdd := w_B1 (m := v / 2 ^ b % 2 ^ 5) (c := c) (Nat.mod_lt _ (by decide)) hc1 (by omega)
        rw [hd] at hdd
        have e4 : nI d >>> ((4 : Int32) &&& 31) = nI (d / 16) := pk_shrN (by omega) _ 4 (by decide)
        refine ok_bnd ?_
        rw [e4]
        obtain ⟨d1, d2⟩ := dgv d (by omega) hdd.1
        obtain ⟨-, -, hw⟩ := w_B hv2 (by omega) hI ge hd.symm d1
        refine ok_bnd (ok_bnd (ok_gd (inb_nI (by omega) (by decide)) (ok_bnd (ok_bnd ?_))))
        rw [d2, nI_clamp (n := b) (by omega), show nI b + (5 : Int32) = nI (b + 5) from nI_add b 5]
        exact ih (b + 5) (d / 16) _ n (by omega) (by omega) hw
set_option maxHeartbeats 200000 in
theorem v_Si_writeDigits (fu : Nat) (hfu : 400 ≤ fu) (h0 : Nat → Int64) {v : Nat} (hv : nv h0 v) (hv2 : v < 2 ^ 256) (w : Nat → Int32) (hw : ∀ i, 262 ≤ i → w i = 0) : ok (x_Si_writeDigits fu h0 262 w) (fun u => dS u 257 = (v : Int) ∧ (∀ i, dg (u i)) ∧ ∀ i, 262 ≤ i → u i = 0) := by
  unfold x_Si_writeDigits
  have hz : ∀ r i u n, i + r = 262 → r < n → (∀ j, j < i ∨ 262 ≤ j → u j = 0) → ok (x_Si_writeDigits_2 fu h0 262 n (nI i) u) (fun u => dS u 257 = (v : Int) ∧ (∀ i, dg (u i)) ∧ ∀ i, 262 ≤ i → u i = 0) := by
    intro r
    induction r with
    | zero =>
      intro i u n hi hn hu
      obtain ⟨n, rfl⟩ : ∃ m, n = m + 1 := ⟨n - 1, by omega⟩
      have e : i = 262 := by omega
      subst e
      show ok (xb_Si_writeDigits_2 fu h0 262 (x_Si_writeDigits_2 fu h0 262 n) (nI 262) u) _
      unfold xb_Si_writeDigits_2
      refine ok_t (Int32.le_refl _) ?_
      have hu0 : ∀ j, u j = 0 := fun j => hu j (by omega)
      refine l_Si_wd fu h0 hv hv2 300 0 0 u fu (by omega) (by omega) ⟨by decide, by decide, ?_, fun i => by rw [hu0]; exact dg_0, fun i _ => hu0 i, fun q => absurd q (by decide)⟩
      rw [Nat.pow_zero, Nat.div_one]
      show (v : Int) = 0 + 1 * ((v : Int) + 0)
      omega
    | succ r ih =>
      intro i u n hi hn hu
      obtain ⟨n, rfl⟩ : ∃ m, n = m + 1 := ⟨n - 1, by omega⟩
      show ok (xb_Si_writeDigits_2 fu h0 262 (x_Si_writeDigits_2 fu h0 262 n) (nI i) u) _
      unfold xb_Si_writeDigits_2
      refine ok_f (show ¬ Int32.ofNat 262 ≤ nI i from nI_ge (b := 262) (by omega) (by decide)) (ok_gd (inb_nI (by omega) (by decide)) (ok_bnd (ok_bnd ?_)))
      rw [nI_clamp (n := i) (by omega), nI_1, show vp_nar .byte (0 : Int32) = 0 by decide]
      refine ih (i + 1) _ n (by omega) (by omega) (fun j hj => ?_)
      by_cases e : j = i
      · rw [e, pk_us]
      · rw [pk_un e]; exact hu j (by omega)
  exact hz 262 0 w fu (by omega) (by omega) (fun j hj => hw j (by omega))
