-- p, the order n, numbers of a table
def pP : Nat := 115792089237316195423570985008687907853269984665640564039457584007908834671663
def nN : Nat := 115792089237316195423570985008687907852837564279074904382605163141518161494337
set_option maxHeartbeats 60000 in
theorem V_22 : V k22 8 = pP := by decide +kernel
set_option maxHeartbeats 60000 in
theorem V_23 : V k23 8 = nN := by decide +kernel
set_option maxHeartbeats 60000 in
theorem pP_e : pP + 2 ^ 32 + 977 = 2 ^ 256 := by decide +kernel
set_option maxHeartbeats 60000 in
theorem V8_lt (h : Nat → Int32) : V h 8 < 2 ^ 256 := V_lt h 8
-- copies
set_option maxHeartbeats 60000 in
theorem cpk_8 : cpk (0 : Int32) (0 : Int32) (8 : Int32) 8 8 = true := by decide
set_option maxHeartbeats 60000 in
theorem cpy_8 (f g : Nat → Int32) : ∀ j, j < 8 → va_cpy f g (0 : Int32).toNatClampNeg (0 : Int32).toNatClampNeg (8 : Int32).toNatClampNeg j = f j := by
  intro j hj
  have e0 : (0 : Int32).toNatClampNeg = 0 := by decide
  have e8 : (8 : Int32).toNatClampNeg = 8 := by decide
  rw [e0, e8, pk_cpy_in (Nat.zero_le _) (by omega)]
  congr 1
  omega
set_option maxHeartbeats 60000 in
theorem v_M_copy (fu : Nat) (h1 : Nat → Int32) (w : Nat → Int32) : ∃ r, x_M_copy fu h1 w = some r ∧ ∀ j, j < 8 → r j = h1 j := by
  unfold x_M_copy
  rw [gd_t cpk_8, bnd_q]
  exact ⟨_, rfl, cpy_8 _ _⟩
set_option maxHeartbeats 60000 in
theorem v_M_copy_s1x22 (fu : Nat) (w : Nat → Int32) : ∃ r, x_M_copy_s1x22 fu w = some r ∧ ∀ j, j < 8 → r j = k22 j := by
  unfold x_M_copy_s1x22
  rw [gd_t cpk_8, bnd_q]
  exact ⟨_, rfl, cpy_8 _ _⟩
set_option maxHeartbeats 60000 in
theorem v_M_copy_s1x23 (fu : Nat) (w : Nat → Int32) : ∃ r, x_M_copy_s1x23 fu w = some r ∧ ∀ j, j < 8 → r j = k23 j := by
  unfold x_M_copy_s1x23
  rw [gd_t cpk_8, bnd_q]
  exact ⟨_, rfl, cpy_8 _ _⟩
set_option maxHeartbeats 60000 in
theorem v_M_copy_s1x24 (fu : Nat) (w : Nat → Int32) : ∃ r, x_M_copy_s1x24 fu w = some r ∧ ∀ j, j < 8 → r j = k24 j := by
  unfold x_M_copy_s1x24
  rw [gd_t cpk_8, bnd_q]
  exact ⟨_, rfl, cpy_8 _ _⟩
set_option maxHeartbeats 60000 in
theorem v_M_copy_s1x25 (fu : Nat) (w : Nat → Int32) : ∃ r, x_M_copy_s1x25 fu w = some r ∧ ∀ j, j < 8 → r j = k25 j := by
  unfold x_M_copy_s1x25
  rw [gd_t cpk_8, bnd_q]
  exact ⟨_, rfl, cpy_8 _ _⟩
set_option maxHeartbeats 60000 in
theorem v_M_copy_e10 (fu : Nat) (w : Nat → Int32) : ∃ r, x_M_copy_e10 fu w = some r ∧ ∀ j, j < 8 → r j = w j := by
  unfold x_M_copy_e10
  rw [gd_t cpk_8, bnd_q]
  exact ⟨_, rfl, cpy_8 _ _⟩
-- one bit of a number
set_option maxHeartbeats 60000 in
theorem u_shr1 (x : Int32) : U ((x.toUInt32 >>> ((1 : Int32).toUInt32 &&& Int32.toUInt32 31)).toInt32) = U x / 2 := by
  have h := pk_ushr x 1 1 (by decide)
  rw [Nat.pow_one] at h
  exact h
set_option maxHeartbeats 60000 in
theorem u_shl31 (x : Int32) : U (x <<< ((31 : Int32) &&& 31)) = U x % 2 * 2 ^ 31 := by
  have h := pk_shl x ((31 : Int32) &&& 31) 31 (by decide)
  unfold U
  rw [h]
  generalize x.toBitVec.toNat = n
  omega
set_option maxHeartbeats 60000 in
theorem u_or {x y : Int32} {i a b : Nat} (hx : U x = b) (hy : U y = a * 2 ^ i) (hb : b < 2 ^ i) : U (x ||| y) = b + a * 2 ^ i := by
  have h : U (x ||| y) = U x ||| U y := by
    unfold U
    rw [Int32.toBitVec_or, BitVec.toNat_or]
  rw [h, hx, hy, Nat.or_comm, Nat.mul_comm, ← Nat.two_pow_add_eq_or_of_lt hb, Nat.add_comm]
set_option maxHeartbeats 60000 in
theorem u_half (x y : Int32) : (x.toUInt32 >>> ((1 : Int32).toUInt32 &&& Int32.toUInt32 31)).toInt32 ||| (y <<< ((31 : Int32) &&& 31)) = nI (U x / 2 + U y % 2 * 2 ^ 31) := by
  apply U_inj
  have h1 := U_lt x
  rw [u_or (u_shr1 x) (u_shl31 y) (by omega), U_nI (by omega)]
def ext (w : Nat → Int32) (t j : Nat) : Int32 := if j < 8 then w j else nI t
def hv (w : Nat → Int32) (t j : Nat) : Int32 := nI (U (ext w t j) / 2 + U (ext w t (j + 1)) % 2 * 2 ^ 31)
set_option maxHeartbeats 60000 in
theorem hv_V (w : Nat → Int32) (t : Nat) : ∀ n, n ≤ 8 → 2 * V (hv w t) n + U (ext w t 0) % 2 = V w n + U (ext w t n) % 2 * 2 ^ (32 * n)
  | 0, _ => by simp [V]
  | k + 1, hk => by
    have h1 := hv_V w t k (by omega)
    rw [V_s, V_s]
    have h3 := p32_s k
    rw [h3]
    have e1 : ext w t k = w k := if_pos (by omega)
    have h4 : 2 * U (hv w t k) + U (ext w t k) % 2 = U (w k) + U (ext w t (k + 1)) % 2 * 2 ^ 32 := by
      unfold hv
      have := U_lt (ext w t k)
      rw [U_nI (by omega), e1]
      omega
    generalize 2 ^ (32 * k) = X at *
    generalize U (hv w t k) = a at *
    generalize U (ext w t k) % 2 = b at *
    generalize U (w k) = c at *
    generalize U (ext w t (k + 1)) % 2 = d at *
    have h5 : (2 * a + b) * X = (c + d * 2 ^ 32) * X := by rw [h4]
    rw [Nat.add_mul, Nat.add_mul, Nat.mul_assoc, Nat.mul_assoc d] at h5
    rw [Nat.mul_add]
    generalize a * X = a1 at *
    generalize b * X = a2 at *
    generalize c * X = a3 at *
    generalize d * (2 ^ 32 * X) = a4 at *
    omega
set_option maxHeartbeats 60000 in
theorem v_M_half (fu : Nat) (hfu : 9 ≤ fu) (t : Nat) (ht : t ≤ 1) (w : Nat → Int32) : ∃ r, x_M_half fu (nI t) w = some r ∧ V r 8 = (V w 8 + t * 2 ^ 256) / 2 := by
  have hs : ∀ n i, i < 8 → x_M_half_2 fu (n + 1) (nI t) (nI i) (ar (hv w t) w i) = x_M_half_2 fu n (nI t) (nI (i + 1)) (ar (hv w t) w (i + 1)) := by
    intro n i hi
    show xb_M_half_2 fu (x_M_half_2 fu n) (nI t) (nI i) (ar (hv w t) w i) = _
    unfold xb_M_half_2
    rw [if_neg (show ¬ (8 : Int32) ≤ nI i from nI_ge (b := 8) hi (by decide)), gd_t (inb_nI hi (by decide)), bnd_q, bnd_q, nI_clamp (n := i) (by omega), ar_ge _ _ i i (Nat.le_refl i)]
    unfold xb_M_half_30
    by_cases h7 : 7 ≤ i
    · rw [if_pos (show (7 : Int32) ≤ nI i from nI_le (a := 7) h7 (by omega)), bnd_q, gd_t (inb_nI hi (by decide)), bnd_q, bnd_q, u_half, nI_1, nI_clamp (n := i) (by omega), ar_s]
      have e1 : hv w t i = nI (U (w i) / 2 + U (nI t) % 2 * 2 ^ 31) := by
        unfold hv ext
        rw [if_pos hi, if_neg (by omega)]
      rw [e1]
    · rw [if_neg (show ¬ (7 : Int32) ≤ nI i from nI_ge (b := 7) (by omega) (by decide)), bnd_q, nI_1, gd_t (inb_nI (by omega) (by decide)), bnd_q, bnd_q, gd_t (inb_nI hi (by decide)), bnd_q, bnd_q, nI_clamp (n := i + 1) (by omega), ar_ge _ _ i (i + 1) (by omega), u_half, nI_clamp (n := i) (by omega), ar_s]
      have e1 : hv w t i = nI (U (w i) / 2 + U (w (i + 1)) % 2 * 2 ^ 31) := by
        unfold hv ext
        rw [if_pos hi, if_pos (by omega)]
      rw [e1]
  obtain ⟨n, hn⟩ : ∃ n, fu = (n + 1) + 8 := ⟨fu - 9, by omega⟩
  have h : x_M_half_2 fu (n + 1 + 8) (nI t) (nI 0) (ar (hv w t) w 0) = x_M_half_2 fu (n + 1) (nI t) (nI 8) (ar (hv w t) w 8) := lp_0 (fun (n : Nat) (s : Int32 × (Nat → Int32)) => x_M_half_2 fu n (nI t) s.1 s.2) (fun i => (nI i, ar (hv w t) w i)) 8 hs (n + 1)
  have h0 : x_M_half fu (nI t) w = x_M_half_2 fu (n + 1 + 8) (nI t) (nI 0) (ar (hv w t) w 0) := by
    rw [← hn]
    rfl
  refine ⟨ar (hv w t) w 8, ?_, ?_⟩
  · rw [h0, h]
    clear h0 h hs
    generalize ar (hv w t) w 8 = R
    show xb_M_half_2 _ (x_M_half_2 _ n) (nI t) (nI 8) R = _
    unfold xb_M_half_2
    rw [if_pos (show (8 : Int32) ≤ nI 8 from by decide)]
  · rw [V_c (g := hv w t) (fun j hj => ar_lt _ _ 8 j hj)]
    have h2 := hv_V w t 8 (Nat.le_refl 8)
    have e8 : ext w t 8 = nI t := if_neg (by omega)
    rw [e8, U_nI (by omega), show 32 * 8 = 256 by rfl] at h2
    have : t = 0 ∨ t = 1 := by omega
    generalize V (hv w t) 8 = A at *
    generalize V w 8 = B at *
    generalize U (ext w t 0) = C at *
    rcases this with rfl | rfl <;> omega
set_option maxHeartbeats 60000 in
theorem l_M_isZero (fu : Nat) (h0 : Nat → Int32) : ∀ k n, k ≤ 8 → k < n → ok (x_M_isZero_2 fu h0 n (nI (8 - k))) (fun v => (v = 1 ∧ ∀ j, 8 - k ≤ j → j < 8 → h0 j = 0) ∨ (v = 0 ∧ ¬ ∀ j, 8 - k ≤ j → j < 8 → h0 j = 0))
  | 0, n + 1, _, _ => by
    show ok (xb_M_isZero_2 fu h0 (x_M_isZero_2 fu h0 n) (nI 8)) _
    unfold xb_M_isZero_2
    refine ok_t (show (8 : Int32) ≤ nI 8 from by decide) (ok_some (Or.inl ⟨rfl, fun j h1 h2 => by omega⟩))
  | k + 1, n + 1, hk, hn => by
    show ok (xb_M_isZero_2 fu h0 (x_M_isZero_2 fu h0 n) (nI (8 - (k + 1)))) _
    unfold xb_M_isZero_2
    refine ok_f (show ¬ (8 : Int32) ≤ nI (8 - (k + 1)) from nI_ge (b := 8) (by omega) (by decide)) (ok_gd (inb_nI (by omega) (by decide)) (ok_bnd ?_))
    rw [nI_clamp (by omega), nI_1, show 8 - (k + 1) + 1 = 8 - k by omega]
    refine ok_ite (fun h => ok_bnd (ok_mono (l_M_isZero fu h0 k n (by omega) (by omega)) (fun v hv => ?_))) (fun h => ok_some (Or.inr ⟨rfl, fun q => h (q _ (Nat.le_refl _) (by omega))⟩))
    have : (∀ j, 8 - k ≤ j → j < 8 → h0 j = 0) ↔ (∀ j, 8 - (k + 1) ≤ j → j < 8 → h0 j = 0) := by
      constructor
      · intro q j h1 h2
        by_cases e : j = 8 - (k + 1)
        · rw [e]; exact h
        · exact q j (by omega) h2
      · intro q j h1 h2
        exact q j (by omega) h2
    rw [this] at hv
    exact hv
set_option maxHeartbeats 60000 in
theorem V_0 (h : Nat → Int32) : ∀ n, V h n = 0 ↔ ∀ j, j < n → h j = 0
  | 0 => by simp [V]
  | n + 1 => by
    rw [V_s]
    have h1 := V_0 h n
    have hp : 0 < 2 ^ (32 * n) := Nat.two_pow_pos _
    constructor
    · intro e j hj
      have e1 : V h n = 0 := by omega
      have e2 : U (h n) * 2 ^ (32 * n) = 0 := by omega
      have e3 : U (h n) = 0 := by
        rcases Nat.mul_eq_zero.mp e2 with q | q
        · exact q
        · omega
      by_cases c : j = n
      · rw [c]
        exact U_inj (by rw [e3]; rfl)
      · exact h1.mp e1 j (by omega)
    · intro e
      rw [h1.mpr (fun j hj => e j (by omega)), e n (by omega)]
      show 0 + 0 * _ = 0
      omega
set_option maxHeartbeats 60000 in
theorem v_M_isZero (fu : Nat) (hfu : 9 ≤ fu) (h0 : Nat → Int32) : x_M_isZero fu h0 = some (if V h0 8 = 0 then 1 else 0) := by
  obtain ⟨v, e, h⟩ := l_M_isZero fu h0 8 fu (Nat.le_refl 8) (by omega)
  have e2 : (∀ j, 8 - 8 ≤ j → j < 8 → h0 j = 0) ↔ V h0 8 = 0 := by
    rw [V_0]
    exact ⟨fun q j hj => q j (Nat.zero_le _) hj, fun q j _ hj => q j hj⟩
  rw [e2] at h
  refine Eq.trans e ?_
  rcases h with ⟨rfl, h⟩ | ⟨rfl, h⟩
  · rw [if_pos h]
  · rw [if_neg h]
set_option maxHeartbeats 60000 in
theorem V_1 (h : Nat → Int32) : ∀ n, V h (n + 1) = 1 ↔ h 0 = 1 ∧ ∀ j, 1 ≤ j → j < n + 1 → h j = 0
  | 0 => by
    rw [V_s]
    show 0 + U (h 0) * 2 ^ 0 = 1 ↔ _
    constructor
    · intro e
      exact ⟨U_inj (by show _ = 1; omega), fun j h1 h2 => by omega⟩
    · intro e
      rw [e.1]; rfl
  | n + 1 => by
    rw [V_s]
    have h1 := V_1 h n
    have hp : 2 ^ 32 ≤ 2 ^ (32 * (n + 1)) := Nat.pow_le_pow_right (by decide) (by omega)
    constructor
    · intro e
      have e2 : U (h (n + 1)) = 0 := by
        rcases Nat.eq_zero_or_pos (U (h (n + 1))) with q | q
        · exact q
        · have := Nat.le_mul_of_pos_left (2 ^ (32 * (n + 1))) q
          omega
      rw [e2] at e
      have e1 := h1.mp (by omega)
      refine ⟨e1.1, fun j a b => ?_⟩
      by_cases c : j = n + 1
      · rw [c]
        exact U_inj (by rw [e2]; rfl)
      · exact e1.2 j a (by omega)
    · intro e
      rw [h1.mpr ⟨e.1, fun j a b => e.2 j a (by omega)⟩, e.2 (n + 1) (by omega) (by omega)]
      show 1 + 0 * _ = 1
      omega
set_option maxHeartbeats 60000 in
theorem l_M_isOne (fu : Nat) (h0 : Nat → Int32) : ∀ k n, k ≤ 7 → k < n → ok (x_M_isOne_2 fu h0 n (nI (8 - k))) (fun v => (v = 1 ∧ h0 0 = 1 ∧ ∀ j, 8 - k ≤ j → j < 8 → h0 j = 0) ∨ (v = 0 ∧ ¬ (h0 0 = 1 ∧ ∀ j, 8 - k ≤ j → j < 8 → h0 j = 0)))
  | 0, n + 1, _, _ => by
    show ok (xb_M_isOne_2 fu h0 (x_M_isOne_2 fu h0 n) (nI 8)) _
    unfold xb_M_isOne_2
    refine ok_t (show (8 : Int32) ≤ nI 8 from by decide) (ok_bnd ?_)
    rw [show (0 : Int32).toNatClampNeg = 0 by decide]
    exact ok_ite (fun h => ok_some (Or.inl ⟨rfl, h, fun j h1 h2 => by omega⟩)) (fun h => ok_some (Or.inr ⟨rfl, fun q => h q.1⟩))
  | k + 1, n + 1, hk, hn => by
    show ok (xb_M_isOne_2 fu h0 (x_M_isOne_2 fu h0 n) (nI (8 - (k + 1)))) _
    unfold xb_M_isOne_2
    refine ok_f (show ¬ (8 : Int32) ≤ nI (8 - (k + 1)) from nI_ge (b := 8) (by omega) (by decide)) (ok_gd (inb_nI (by omega) (by decide)) (ok_bnd ?_))
    rw [nI_clamp (by omega), nI_1, show 8 - (k + 1) + 1 = 8 - k by omega]
    refine ok_ite (fun h => ok_bnd (ok_mono (l_M_isOne fu h0 k n (by omega) (by omega)) (fun v hv => ?_))) (fun h => ok_some (Or.inr ⟨rfl, fun q => h (q.2 _ (Nat.le_refl _) (by omega))⟩))
    have : (∀ j, 8 - k ≤ j → j < 8 → h0 j = 0) ↔ (∀ j, 8 - (k + 1) ≤ j → j < 8 → h0 j = 0) := by
      constructor
      · intro q j h1 h2
        by_cases e : j = 8 - (k + 1)
        · rw [e]; exact h
        · exact q j (by omega) h2
      · intro q j h1 h2
        exact q j (by omega) h2
    rw [this] at hv
    exact hv
set_option maxHeartbeats 60000 in
theorem v_M_isOne (fu : Nat) (hfu : 9 ≤ fu) (h0 : Nat → Int32) : x_M_isOne fu h0 = some (if V h0 8 = 1 then 1 else 0) := by
  obtain ⟨v, e, h⟩ := l_M_isOne fu h0 7 fu (Nat.le_refl 7) (by omega)
  have e2 : (h0 0 = 1 ∧ ∀ j, 8 - 7 ≤ j → j < 8 → h0 j = 0) ↔ V h0 8 = 1 := (V_1 h0 7).symm
  rw [e2] at h
  refine Eq.trans e ?_
  rcases h with ⟨rfl, h⟩ | ⟨rfl, h⟩
  · rw [if_pos h]
  · rw [if_neg h]
set_option maxHeartbeats 60000 in
theorem cb_i0 : (cb 0).toInt32 = 0 := by decide
set_option maxHeartbeats 60000 in
theorem cb_i1 : ¬ (cb 1).toInt32 = 0 := by decide
set_option maxHeartbeats 60000 in
theorem c_01 {c : Nat} (h : c ≤ 1) : c = 0 ∨ c = 1 := by omega
set_option maxHeartbeats 60000 in
theorem mn_1 {a b r P T : Nat} (hp : P + 2 ^ 32 + 977 = T) (ha : a < P) (hb : b < P) (h : r + b = a + 0 * T) : r = (a + (P - b)) % P := by
  rw [show a + (P - b) = r + P by omega, Nat.add_mod_right, Nat.mod_eq_of_lt (by omega)]
set_option maxHeartbeats 60000 in
theorem mn_2 {a b r P T c r2 : Nat} (hp : P + 2 ^ 32 + 977 = T) (ha : a < P) (hb : b < P) (hr : r < T) (hr2 : r2 < T) (h : r + b = a + 1 * T) (hc : c ≤ 1) (h2 : r2 + c * T = r + P) : r2 = (a + (P - b)) % P := by
  rcases c_01 hc with rfl | rfl
  · omega
  · rw [show a + (P - b) = r2 by omega, Nat.mod_eq_of_lt (by omega)]
set_option maxHeartbeats 60000 in
theorem pl_1 {a b r P T c r2 : Nat} (hp : P + 2 ^ 32 + 977 = T) (ha : a < P) (hb : b < P) (hr : r < T) (hr2 : r2 < T) (h : r + 1 * T = a + b) (hc : c ≤ 1) (h2 : r2 + P = r + c * T) : r2 = (a + b) % P := by
  rcases c_01 hc with rfl | rfl
  · omega
  · rw [show a + b = r2 + P by omega, Nat.add_mod_right, Nat.mod_eq_of_lt (by omega)]
set_option maxHeartbeats 60000 in
theorem pl_2 {a b r P T : Nat} (hp : P + 2 ^ 32 + 977 = T) (h : r + 0 * T = a + b) (hr : r < P) : r = (a + b) % P := by
  rw [← h, Nat.mod_eq_of_lt (by omega)]
  omega
set_option maxHeartbeats 60000 in
theorem pl_3 {a b r P T c r2 : Nat} (hp : P + 2 ^ 32 + 977 = T) (ha : a < P) (hb : b < P) (hr : ¬ r < P) (hr1 : r < T) (hr2 : r2 < T) (h : r + 0 * T = a + b) (hc : c ≤ 1) (h2 : r2 + P = r + c * T) : r2 = (a + b) % P := by
  rcases c_01 hc with rfl | rfl
  · rw [show a + b = r2 + P by omega, Nat.add_mod_right, Nat.mod_eq_of_lt (by omega)]
  · omega
set_option maxHeartbeats 60000 in
theorem v_M_minus (fu : Nat) (hfu : 9 ≤ fu) (h1 h2 : Nat → Int32) (w : Nat → Int32) (hA : V h1 8 < pP) (hB : V h2 8 < pP) : ∃ r, x_M_minus fu h1 h2 w = some r ∧ V r 8 = (V h1 8 + (pP - V h2 8)) % pP := by
  obtain ⟨c, r, e, hc, h⟩ := v_M_sub fu hfu h1 h2 w
  unfold x_M_minus
  rw [e, bd2_q]
  rcases c_01 hc with rfl | rfl
  · rw [if_pos cb_i0]
    exact ⟨r, rfl, mn_1 pP_e hA hB h⟩
  · rw [if_neg cb_i1]
    obtain ⟨c2, r2, e2, hc2, h2⟩ := v_M_add_e10s2x22 fu hfu r
    rw [e2, bd2_q]
    rw [V_22] at h2
    exact ⟨r2, rfl, mn_2 pP_e hA hB (V8_lt r) (V8_lt r2) h hc2 h2⟩
set_option maxHeartbeats 60000 in
theorem v_M_minus_e10 (fu : Nat) (hfu : 9 ≤ fu) (h2 : Nat → Int32) (w : Nat → Int32) (hA : V w 8 < pP) (hB : V h2 8 < pP) : ∃ r, x_M_minus_e10 fu h2 w = some r ∧ V r 8 = (V w 8 + (pP - V h2 8)) % pP := by
  obtain ⟨c, r, e, hc, h⟩ := v_M_sub_e10 fu hfu h2 w
  unfold x_M_minus_e10
  rw [e, bd2_q]
  rcases c_01 hc with rfl | rfl
  · rw [if_pos cb_i0]
    exact ⟨r, rfl, mn_1 pP_e hA hB h⟩
  · rw [if_neg cb_i1]
    obtain ⟨c2, r2, e2, hc2, h2⟩ := v_M_add_e10s2x22 fu hfu r
    rw [e2, bd2_q]
    rw [V_22] at h2
    exact ⟨r2, rfl, mn_2 pP_e hA hB (V8_lt r) (V8_lt r2) h hc2 h2⟩
set_option maxHeartbeats 60000 in
theorem v_M_minus_e20 (fu : Nat) (hfu : 9 ≤ fu) (h1 : Nat → Int32) (w : Nat → Int32) (hA : V h1 8 < pP) (hB : V w 8 < pP) : ∃ r, x_M_minus_e20 fu h1 w = some r ∧ V r 8 = (V h1 8 + (pP - V w 8)) % pP := by
  obtain ⟨c, r, e, hc, h⟩ := v_M_sub_e20 fu hfu h1 w
  unfold x_M_minus_e20
  rw [e, bd2_q]
  rcases c_01 hc with rfl | rfl
  · rw [if_pos cb_i0]
    exact ⟨r, rfl, mn_1 pP_e hA hB h⟩
  · rw [if_neg cb_i1]
    obtain ⟨c2, r2, e2, hc2, h2⟩ := v_M_add_e10s2x22 fu hfu r
    rw [e2, bd2_q]
    rw [V_22] at h2
    exact ⟨r2, rfl, mn_2 pP_e hA hB (V8_lt r) (V8_lt r2) h hc2 h2⟩
set_option maxHeartbeats 60000 in
theorem v_M_minus_e21 (fu : Nat) (hfu : 9 ≤ fu) (h1 : Nat → Int32) (w : Nat → Int32) (hA : V h1 8 < pP) (hB : V h1 8 < pP) : ∃ r, x_M_minus_e21 fu h1 w = some r ∧ V r 8 = (V h1 8 + (pP - V h1 8)) % pP := by
  obtain ⟨c, r, e, hc, h⟩ := v_M_sub_e21 fu hfu h1 w
  unfold x_M_minus_e21
  rw [e, bd2_q]
  rcases c_01 hc with rfl | rfl
  · rw [if_pos cb_i0]
    exact ⟨r, rfl, mn_1 pP_e hA hB h⟩
  · rw [if_neg cb_i1]
    obtain ⟨c2, r2, e2, hc2, h2⟩ := v_M_add_e10s2x22 fu hfu r
    rw [e2, bd2_q]
    rw [V_22] at h2
    exact ⟨r2, rfl, mn_2 pP_e hA hB (V8_lt r) (V8_lt r2) h hc2 h2⟩
set_option maxHeartbeats 60000 in
theorem v_M_minus_s1x25 (fu : Nat) (hfu : 9 ≤ fu) (h2 : Nat → Int32) (w : Nat → Int32) (hA : V k25 8 < pP) (hB : V h2 8 < pP) : ∃ r, x_M_minus_s1x25 fu h2 w = some r ∧ V r 8 = (V k25 8 + (pP - V h2 8)) % pP := by
  obtain ⟨c, r, e, hc, h⟩ := v_M_sub_s1x25 fu hfu h2 w
  unfold x_M_minus_s1x25
  rw [e, bd2_q]
  rcases c_01 hc with rfl | rfl
  · rw [if_pos cb_i0]
    exact ⟨r, rfl, mn_1 pP_e hA hB h⟩
  · rw [if_neg cb_i1]
    obtain ⟨c2, r2, e2, hc2, h2⟩ := v_M_add_e10s2x22 fu hfu r
    rw [e2, bd2_q]
    rw [V_22] at h2
    exact ⟨r2, rfl, mn_2 pP_e hA hB (V8_lt r) (V8_lt r2) h hc2 h2⟩
set_option maxHeartbeats 60000 in
theorem v_M_minus_s1x24 (fu : Nat) (hfu : 9 ≤ fu) (h2 : Nat → Int32) (w : Nat → Int32) (hA : V k24 8 < pP) (hB : V h2 8 < pP) : ∃ r, x_M_minus_s1x24 fu h2 w = some r ∧ V r 8 = (V k24 8 + (pP - V h2 8)) % pP := by
  obtain ⟨c, r, e, hc, h⟩ := v_M_sub_s1x24 fu hfu h2 w
  unfold x_M_minus_s1x24
  rw [e, bd2_q]
  rcases c_01 hc with rfl | rfl
  · rw [if_pos cb_i0]
    exact ⟨r, rfl, mn_1 pP_e hA hB h⟩
  · rw [if_neg cb_i1]
    obtain ⟨c2, r2, e2, hc2, h2⟩ := v_M_add_e10s2x22 fu hfu r
    rw [e2, bd2_q]
    rw [V_22] at h2
    exact ⟨r2, rfl, mn_2 pP_e hA hB (V8_lt r) (V8_lt r2) h hc2 h2⟩
set_option maxHeartbeats 60000 in
theorem v_M_minus_e10s2x24 (fu : Nat) (hfu : 9 ≤ fu) (w : Nat → Int32) (hA : V w 8 < pP) (hB : V k24 8 < pP) : ∃ r, x_M_minus_e10s2x24 fu  w = some r ∧ V r 8 = (V w 8 + (pP - V k24 8)) % pP := by
  obtain ⟨c, r, e, hc, h⟩ := v_M_sub_e10s2x24 fu hfu  w
  unfold x_M_minus_e10s2x24
  rw [e, bd2_q]
  rcases c_01 hc with rfl | rfl
  · rw [if_pos cb_i0]
    exact ⟨r, rfl, mn_1 pP_e hA hB h⟩
  · rw [if_neg cb_i1]
    obtain ⟨c2, r2, e2, hc2, h2⟩ := v_M_add_e10s2x22 fu hfu r
    rw [e2, bd2_q]
    rw [V_22] at h2
    exact ⟨r2, rfl, mn_2 pP_e hA hB (V8_lt r) (V8_lt r2) h hc2 h2⟩
set_option maxHeartbeats 60000 in
theorem nI_is1 {c : Nat} (h : c ≤ 1) : nI c = 1 ↔ c = 1 := by
  rcases c_01 h with rfl | rfl <;> decide
set_option maxHeartbeats 60000 in
theorem v_M_plus_e10_20 (fu : Nat) (hfu : 9 ≤ fu) (h2 : Nat → Int32) (w : Nat → Int32) : ∃ (c : Nat) (r : Nat → Int32), xb_M_plus_e10_20 fu h2 w = some r ∧ c ≤ 1 ∧ V r 8 + pP = V w 8 + c * 2 ^ 256 := by
  obtain ⟨c, r, e, hc, h⟩ := v_M_sub_e10s2x22 fu hfu w
  unfold xb_M_plus_e10_20
  rw [e, bd2_q]
  rw [V_22] at h
  exact ⟨c, r, rfl, hc, h⟩
set_option maxHeartbeats 60000 in
theorem v_M_plus_e10 (fu : Nat) (hfu : 9 ≤ fu) (h2 : Nat → Int32) (w : Nat → Int32) (hA : V w 8 < pP) (hB : V h2 8 < pP) : ∃ r, x_M_plus_e10 fu h2 w = some r ∧ V r 8 = (V w 8 + V h2 8) % pP := by
  obtain ⟨c, r, e, hc, h⟩ := v_M_add_e10 fu hfu h2 w
  unfold x_M_plus_e10
  rw [e, bd2_q]
  obtain ⟨c2, r2, e2, hc2, h2⟩ := v_M_plus_e10_20 fu hfu h2 r
  rcases c_01 hc with rfl | rfl
  · rw [if_neg (fun q => absurd ((nI_is1 hc).mp q) (by decide)), v_M_compare_s1x22 fu hfu, bd1_q, V_22]
    by_cases h3 : V r 8 < pP
    · rw [if_pos ((cmpN_lt _ _).mpr h3)]
      exact ⟨r, rfl, pl_2 pP_e h h3⟩
    · rw [if_neg (fun q => h3 ((cmpN_lt _ _).mp q)), e2]
      exact ⟨r2, rfl, pl_3 pP_e hA hB h3 (V8_lt r) (V8_lt r2) h hc2 h2⟩
  · rw [if_pos ((nI_is1 hc).mpr rfl), e2]
    exact ⟨r2, rfl, pl_1 pP_e hA hB (V8_lt r) (V8_lt r2) h hc2 h2⟩
set_option maxHeartbeats 60000 in
theorem v_M_plus_e21_20 (fu : Nat) (hfu : 9 ≤ fu) (h1 : Nat → Int32) (w : Nat → Int32) : ∃ (c : Nat) (r : Nat → Int32), xb_M_plus_e21_20 fu h1 w = some r ∧ c ≤ 1 ∧ V r 8 + pP = V w 8 + c * 2 ^ 256 := by
  obtain ⟨c, r, e, hc, h⟩ := v_M_sub_e10s2x22 fu hfu w
  unfold xb_M_plus_e21_20
  rw [e, bd2_q]
  rw [V_22] at h
  exact ⟨c, r, rfl, hc, h⟩
set_option maxHeartbeats 60000 in
theorem v_M_plus_e21 (fu : Nat) (hfu : 9 ≤ fu) (h1 : Nat → Int32) (w : Nat → Int32) (hA : V h1 8 < pP) (hB : V h1 8 < pP) : ∃ r, x_M_plus_e21 fu h1 w = some r ∧ V r 8 = (V h1 8 + V h1 8) % pP := by
  obtain ⟨c, r, e, hc, h⟩ := v_M_add_e21 fu hfu h1 w
  unfold x_M_plus_e21
  rw [e, bd2_q]
  obtain ⟨c2, r2, e2, hc2, h2⟩ := v_M_plus_e21_20 fu hfu h1 r
  rcases c_01 hc with rfl | rfl
  · rw [if_neg (fun q => absurd ((nI_is1 hc).mp q) (by decide)), v_M_compare_s1x22 fu hfu, bd1_q, V_22]
    by_cases h3 : V r 8 < pP
    · rw [if_pos ((cmpN_lt _ _).mpr h3)]
      exact ⟨r, rfl, pl_2 pP_e h h3⟩
    · rw [if_neg (fun q => h3 ((cmpN_lt _ _).mp q)), e2]
      exact ⟨r2, rfl, pl_3 pP_e hA hB h3 (V8_lt r) (V8_lt r2) h hc2 h2⟩
  · rw [if_pos ((nI_is1 hc).mpr rfl), e2]
    exact ⟨r2, rfl, pl_1 pP_e hA hB (V8_lt r) (V8_lt r2) h hc2 h2⟩
-- products
set_option maxHeartbeats 60000 in
theorem V_add (h : Nat → Int32) (n : Nat) : ∀ k, V h (n + k) = V h n + 2 ^ (32 * n) * V (fun j => h (n + j)) k
  | 0 => by simp [V]
  | k + 1 => by
    have h1 := V_add h n k
    rw [show n + (k + 1) = n + k + 1 by omega, V_s, V_s, h1, Nat.mul_add (2 ^ (32 * n)), Nat.add_assoc, p32_a]
    generalize 2 ^ (32 * n) = A
    generalize 2 ^ (32 * k) = B
    rw [Nat.mul_left_comm]
set_option maxHeartbeats 60000 in
theorem V_z (h : Nat → Int32) (n : Nat) : ∀ k, (∀ j, n ≤ j → j < n + k → h j = 0) → V h (n + k) = V h n
  | 0, _ => rfl
  | k + 1, e => by
    rw [show n + (k + 1) = n + k + 1 by omega, V_s, V_z h n k (fun j a b => e j a (by omega)), e (n + k) (by omega) (by omega)]
    show _ + 0 * _ = _
    omega
set_option maxHeartbeats 60000 in
theorem V_u (h : Nat → Int32) (k : Nat) (x : Int32) : ∀ n, n ≤ k → V (upd h k x) n = V h n := fun n hn => V_c (fun j hj => pk_un (by omega))
set_option maxHeartbeats 60000 in
theorem mu_b {a b c p : Nat} (ha : a < 2 ^ 32) (hb : b < 2 ^ 32) (hc : c < 2 ^ 32) (hp : p < 2 ^ 32) : c + (a * b + p) < 2 ^ 64 := by
  have h1 : a * b ≤ (2 ^ 32 - 1) * (2 ^ 32 - 1) := Nat.mul_le_mul (by omega) (by omega)
  have h2 : (2 ^ 32 - 1) * (2 ^ 32 - 1) = 18446744065119617025 := by decide
  omega
/-- a row of a product, j words of it done -/
def rI (a : Nat) (b p0 : Nat → Int32) (i j c : Nat) (u : Nat → Int32) : Prop := c < 2 ^ 32 ∧ V u (i + j) + c * 2 ^ (32 * (i + j)) = V p0 (i + j) + a * 2 ^ (32 * i) * V b j ∧ ∀ m, i + j ≤ m → u m = p0 m
set_option maxHeartbeats 60000 in
theorem rI_1 {S v c p q a b x X Y Z : Nat} (hS : c + (a * b + x) = S) (h2 : v + c * X = p + q) (hX : X = Y * Z) (vb : Nat) (hq : q = a * Y * vb) : v + S % 2 ^ 32 * X + S / 2 ^ 32 * (2 ^ 32 * X) = p + x * X + a * Y * (vb + b * Z) := by
  have h4 : S % 2 ^ 32 * X + S / 2 ^ 32 * (2 ^ 32 * X) = S * X := by
    rw [← Nat.mul_assoc, ← Nat.add_mul, show S % 2 ^ 32 + S / 2 ^ 32 * 2 ^ 32 = S by omega]
  have h5 : S * X = c * X + (a * b * X + x * X) := by
    rw [← hS, Nat.add_mul, Nat.add_mul]
  have h6 : a * Y * (vb + b * Z) = q + a * b * X := by
    rw [Nat.mul_add, hq, hX]
    congr 1
    rw [Nat.mul_assoc a, Nat.mul_assoc a, Nat.mul_left_comm Y]
  rw [h6, Nat.add_assoc, h4, h5]
  generalize c * X = a1 at *
  generalize a * b * X = a2 at *
  generalize x * X = a3 at *
  omega
set_option maxHeartbeats 60000 in
theorem rI_s {a : Nat} {b p0 : Nat → Int32} {i j c : Nat} {u : Nat → Int32} (ha : a < 2 ^ 32) (h : rI a b p0 i j c u) : c + (a * U (b j) + U (u (i + j))) < 2 ^ 64 ∧ rI a b p0 i (j + 1) ((c + (a * U (b j) + U (u (i + j)))) / 2 ^ 32) (upd u (i + j) (nI (c + (a * U (b j) + U (u (i + j)))))) := by
  obtain ⟨h1, h2, h3⟩ := h
  have hb := mu_b ha (U_lt (b j)) h1 (U_lt (u (i + j)))
  have e1 := p32_s (i + j)
  have e2 := p32_a i j
  refine ⟨hb, ?_, ?_, fun m hm => ?_⟩
  · generalize c + (a * U (b j) + U (u (i + j))) = S at *
    omega
  · rw [show i + (j + 1) = i + j + 1 by omega, V_s, V_u _ _ _ _ (Nat.le_refl _), pk_us, U_mod, V_s p0, V_s b, ← h3 (i + j) (Nat.le_refl _), e1]
    exact rI_1 rfl h2 e2 (V b j) rfl
  · rw [pk_un (by omega)]
    exact h3 m (by omega)
/-- rows of a product done -/
def pI (a b : Nat → Int32) (i : Nat) (u : Nat → Int32) : Prop := V u (i + 8) = V a i * V b 8 ∧ ∀ m, i + 8 ≤ m → m < 16 → u m = 0
set_option maxHeartbeats 60000 in
theorem pI_s {a b u u' : Nat → Int32} {i c : Nat} (hi : i < 8) (h : pI a b i u) (h' : rI (U (a i)) b u i 8 c u') : pI a b (i + 1) (upd u' (i + 8) (nI c)) := by
  obtain ⟨h1, h2⟩ := h
  obtain ⟨g1, g2, g3⟩ := h'
  refine ⟨?_, fun m a b => ?_⟩
  · rw [show i + 1 + 8 = i + 8 + 1 by omega, V_s, V_u _ _ _ _ (Nat.le_refl _), pk_us, U_nI g1, g2, h1]
    generalize V b 8 = B
    rw [V_s, Nat.add_mul]
  · rw [pk_un (by omega), g3 m (by omega)]
    exact h2 m (by omega) b
set_option maxHeartbeats 60000 in
theorem l_M_multiply_35 (fu : Nat) (z : Nat → Int32) (h1 h2 : Nat → Int32) (k_23 : Int32 → (Nat → Int32) → Option (Nat → Int32)) (Q : (Nat → Int32) → Prop) (i : Nat) (hi : i < 8) (p0 : Nat → Int32) (hk : ∀ c u', rI (U (h1 i)) h2 p0 i 8 c u' → ok (k_23 (nI (i + 1)) (upd u' (i + 8) (nI c))) Q) :
    ∀ r j c u n, j + r = 8 → r < n → rI (U (h1 i)) h2 p0 i j c u → ok (x_M_multiply_35 fu z h1 h2 k_23 n (nI i) (lN c) (nI j) u) Q := by
  intro r
  induction r with
  | zero =>
    intro j c u n hj hn hI
    obtain ⟨n, rfl⟩ : ∃ m, n = m + 1 := ⟨n - 1, by omega⟩
    have e8 : j = 8 := by omega
    subst e8
    show ok (xb_M_multiply_35 fu z h1 h2 k_23 (x_M_multiply_35 fu z h1 h2 k_23 n) (nI i) (lN c) (nI 8) u) Q
    unfold xb_M_multiply_35
    have h := hk c u hI
    refine ok_t (show (8 : Int32) ≤ nI 8 from by decide) ?_
    rw [show nI i + (8 : Int32) = nI (i + 8) from nI_add i 8]
    refine ok_bnd (ok_bnd (ok_gd (inb_nI (by omega) (by decide)) (ok_bnd (ok_bnd ?_))))
    rw [nI_clamp (n := i + 8) (by omega), lN_i, nI_1]
    exact h
  | succ r ih =>
    intro j c u n hj hn hI
    obtain ⟨n, rfl⟩ : ∃ m, n = m + 1 := ⟨n - 1, by omega⟩
    show ok (xb_M_multiply_35 fu z h1 h2 k_23 (x_M_multiply_35 fu z h1 h2 k_23 n) (nI i) (lN c) (nI j) u) Q
    unfold xb_M_multiply_35
    obtain ⟨hb, hI'⟩ := rI_s (U_lt _) hI
    have hr := ih (j + 1) _ _ n (by omega) (by omega) hI'
    refine ok_f (show ¬ (8 : Int32) ≤ nI j from nI_ge (b := 8) (by omega) (by decide)) ?_
    rw [nI_clamp (n := i) (by omega), nI_clamp (n := j) (by omega), nI_add]
    refine ok_gd (inb_nI (by omega) (by decide)) (ok_bnd (ok_bnd (ok_bnd (ok_gd (inb_nI (by omega) (by decide)) (ok_bnd (ok_bnd (ok_bnd (ok_bnd (ok_gd (inb_nI (by omega) (by decide)) (ok_bnd (ok_bnd (ok_bnd (ok_bnd (ok_bnd (ok_gd (inb_nI (by omega) (by decide)) (ok_bnd (ok_bnd (ok_bnd ?_))))))))))))))))))
    rw [nI_clamp (n := i + j) (by omega), l_mask, l_mask, l_mask, lN_mul, lN_add, lN_add, l_shr hb, lN_i, nI_1]
    exact hr
set_option maxHeartbeats 60000 in
theorem l_M_multiply_23 (fu : Nat) (hfu : 9 ≤ fu) (z : Nat → Int32) (h1 h2 : Nat → Int32) : ∀ r i u n, i + r = 8 → r < n → pI h1 h2 i u → ok (x_M_multiply_23 fu z h1 h2 n (nI i) u) (fun u' => V u' 16 = V h1 8 * V h2 8) := by
  intro r
  induction r with
  | zero =>
    intro i u n hi hn hI
    obtain ⟨n, rfl⟩ : ∃ m, n = m + 1 := ⟨n - 1, by omega⟩
    have e8 : i = 8 := by omega
    subst e8
    show ok (xb_M_multiply_23 fu z h1 h2 (x_M_multiply_23 fu z h1 h2 n) (nI 8) u) _
    unfold xb_M_multiply_23
    exact ok_t (show (8 : Int32) ≤ nI 8 from by decide) (ok_some hI.1)
  | succ r ih =>
    intro i u n hi hn hI
    obtain ⟨n, rfl⟩ : ∃ m, n = m + 1 := ⟨n - 1, by omega⟩
    show ok (xb_M_multiply_23 fu z h1 h2 (x_M_multiply_23 fu z h1 h2 n) (nI i) u) _
    unfold xb_M_multiply_23
    refine ok_f (show ¬ (8 : Int32) ≤ nI i from nI_ge (b := 8) (by omega) (by decide)) ?_
    have h0 : rI (U (h1 i)) h2 u i 0 0 u := ⟨by decide, by rw [Nat.zero_mul]; rfl, fun m _ => rfl⟩
    exact l_M_multiply_35 fu z h1 h2 _ _ i (by omega) u (fun c u' h => ih (i + 1) _ n (by omega) (by omega) (pI_s (by omega) hI h)) 8 0 0 u fu (by omega) (by omega) h0
set_option maxHeartbeats 60000 in
theorem v_M_multiply (fu : Nat) (hfu : 17 ≤ fu) (z : Nat → Int32) (h1 h2 : Nat → Int32) (w : Nat → Int32) : ok (x_M_multiply fu z h1 h2 w) (fun u' => V u' 16 = V h1 8 * V h2 8) := by
  have hz : ∀ r i u n, i + r = 16 → r < n → (∀ j, j < i → u j = 0) → ok (x_M_multiply_2 fu z h1 h2 n (nI i) u) (fun u' => V u' 16 = V h1 8 * V h2 8) := by
    intro r
    induction r with
    | zero =>
      intro i u n hi hn hu
      obtain ⟨n, rfl⟩ : ∃ m, n = m + 1 := ⟨n - 1, by omega⟩
      have e : i = 16 := by omega
      subst e
      show ok (xb_M_multiply_2 fu z h1 h2 (x_M_multiply_2 fu z h1 h2 n) (nI 16) u) _
      unfold xb_M_multiply_2
      rw [if_pos (show (16 : Int32) ≤ nI 16 from by decide)]
      refine l_M_multiply_23 fu (by omega) z h1 h2 8 0 u fu (by omega) (by omega) ⟨?_, fun m a b => hu m (by omega)⟩
      rw [(V_0 u (0 + 8)).mpr (fun j hj => hu j (by omega)), show V h1 0 = 0 from rfl, Nat.zero_mul]
    | succ r ih =>
      intro i u n hi hn hu
      obtain ⟨n, rfl⟩ : ∃ m, n = m + 1 := ⟨n - 1, by omega⟩
      show ok (xb_M_multiply_2 fu z h1 h2 (x_M_multiply_2 fu z h1 h2 n) (nI i) u) _
      unfold xb_M_multiply_2
      rw [if_neg (show ¬ (16 : Int32) ≤ nI i from nI_ge (b := 16) (by omega) (by decide))]
      refine ok_gd (inb_nI (by omega) (by decide)) (ok_bnd (ok_bnd ?_))
      rw [nI_clamp (n := i) (by omega), nI_1]
      refine ih (i + 1) _ n (by omega) (by omega) (fun j hj => ?_)
      by_cases e : j = i
      · rw [e, pk_us]
      · rw [pk_un e]; exact hu j (by omega)
  exact hz 16 0 w fu (by omega) (by omega) (fun j hj => absurd hj (Nat.not_lt_zero _))
set_option maxHeartbeats 60000 in
theorem l_M_multiply_e21_35 (fu : Nat) (z : Nat → Int32) (h1 : Nat → Int32) (k_23 : Int32 → (Nat → Int32) → Option (Nat → Int32)) (Q : (Nat → Int32) → Prop) (i : Nat) (hi : i < 8) (p0 : Nat → Int32) (hk : ∀ c u', rI (U (h1 i)) h1 p0 i 8 c u' → ok (k_23 (nI (i + 1)) (upd u' (i + 8) (nI c))) Q) :
    ∀ r j c u n, j + r = 8 → r < n → rI (U (h1 i)) h1 p0 i j c u → ok (x_M_multiply_e21_35 fu z h1 k_23 n (nI i) (lN c) (nI j) u) Q := by
  intro r
  induction r with
  | zero =>
    intro j c u n hj hn hI
    obtain ⟨n, rfl⟩ : ∃ m, n = m + 1 := ⟨n - 1, by omega⟩
    have e8 : j = 8 := by omega
    subst e8
    show ok (xb_M_multiply_e21_35 fu z h1 k_23 (x_M_multiply_e21_35 fu z h1 k_23 n) (nI i) (lN c) (nI 8) u) Q
    unfold xb_M_multiply_e21_35
    have h := hk c u hI
    refine ok_t (show (8 : Int32) ≤ nI 8 from by decide) ?_
    rw [show nI i + (8 : Int32) = nI (i + 8) from nI_add i 8]
    refine ok_bnd (ok_bnd (ok_gd (inb_nI (by omega) (by decide)) (ok_bnd (ok_bnd ?_))))
    rw [nI_clamp (n := i + 8) (by omega), lN_i, nI_1]
    exact h
  | succ r ih =>
    intro j c u n hj hn hI
    obtain ⟨n, rfl⟩ : ∃ m, n = m + 1 := ⟨n - 1, by omega⟩
    show ok (xb_M_multiply_e21_35 fu z h1 k_23 (x_M_multiply_e21_35 fu z h1 k_23 n) (nI i) (lN c) (nI j) u) Q
    unfold xb_M_multiply_e21_35
    obtain ⟨hb, hI'⟩ := rI_s (U_lt _) hI
    have hr := ih (j + 1) _ _ n (by omega) (by omega) hI'
    refine ok_f (show ¬ (8 : Int32) ≤ nI j from nI_ge (b := 8) (by omega) (by decide)) ?_
    rw [nI_clamp (n := i) (by omega), nI_clamp (n := j) (by omega), nI_add]
    refine ok_gd (inb_nI (by omega) (by decide)) (ok_bnd (ok_bnd (ok_bnd (ok_gd (inb_nI (by omega) (by decide)) (ok_bnd (ok_bnd (ok_bnd (ok_bnd (ok_gd (inb_nI (by omega) (by decide)) (ok_bnd (ok_bnd (ok_bnd (ok_bnd (ok_bnd (ok_gd (inb_nI (by omega) (by decide)) (ok_bnd (ok_bnd (ok_bnd ?_))))))))))))))))))
    rw [nI_clamp (n := i + j) (by omega), l_mask, l_mask, l_mask, lN_mul, lN_add, lN_add, l_shr hb, lN_i, nI_1]
    exact hr
set_option maxHeartbeats 60000 in
theorem l_M_multiply_e21_23 (fu : Nat) (hfu : 9 ≤ fu) (z : Nat → Int32) (h1 : Nat → Int32) : ∀ r i u n, i + r = 8 → r < n → pI h1 h1 i u → ok (x_M_multiply_e21_23 fu z h1 n (nI i) u) (fun u' => V u' 16 = V h1 8 * V h1 8) := by
  intro r
  induction r with
  | zero =>
    intro i u n hi hn hI
    obtain ⟨n, rfl⟩ : ∃ m, n = m + 1 := ⟨n - 1, by omega⟩
    have e8 : i = 8 := by omega
    subst e8
    show ok (xb_M_multiply_e21_23 fu z h1 (x_M_multiply_e21_23 fu z h1 n) (nI 8) u) _
    unfold xb_M_multiply_e21_23
    exact ok_t (show (8 : Int32) ≤ nI 8 from by decide) (ok_some hI.1)
  | succ r ih =>
    intro i u n hi hn hI
    obtain ⟨n, rfl⟩ : ∃ m, n = m + 1 := ⟨n - 1, by omega⟩
    show ok (xb_M_multiply_e21_23 fu z h1 (x_M_multiply_e21_23 fu z h1 n) (nI i) u) _
    unfold xb_M_multiply_e21_23
    refine ok_f (show ¬ (8 : Int32) ≤ nI i from nI_ge (b := 8) (by omega) (by decide)) ?_
    have h0 : rI (U (h1 i)) h1 u i 0 0 u := ⟨by decide, by rw [Nat.zero_mul]; rfl, fun m _ => rfl⟩
    exact l_M_multiply_e21_35 fu z h1 _ _ i (by omega) u (fun c u' h => ih (i + 1) _ n (by omega) (by omega) (pI_s (by omega) hI h)) 8 0 0 u fu (by omega) (by omega) h0
set_option maxHeartbeats 60000 in
theorem v_M_multiply_e21 (fu : Nat) (hfu : 17 ≤ fu) (z : Nat → Int32) (h1 : Nat → Int32) (w : Nat → Int32) : ok (x_M_multiply_e21 fu z h1 w) (fun u' => V u' 16 = V h1 8 * V h1 8) := by
  have hz : ∀ r i u n, i + r = 16 → r < n → (∀ j, j < i → u j = 0) → ok (x_M_multiply_e21_2 fu z h1 n (nI i) u) (fun u' => V u' 16 = V h1 8 * V h1 8) := by
    intro r
    induction r with
    | zero =>
      intro i u n hi hn hu
      obtain ⟨n, rfl⟩ : ∃ m, n = m + 1 := ⟨n - 1, by omega⟩
      have e : i = 16 := by omega
      subst e
      show ok (xb_M_multiply_e21_2 fu z h1 (x_M_multiply_e21_2 fu z h1 n) (nI 16) u) _
      unfold xb_M_multiply_e21_2
      rw [if_pos (show (16 : Int32) ≤ nI 16 from by decide)]
      refine l_M_multiply_e21_23 fu (by omega) z h1 8 0 u fu (by omega) (by omega) ⟨?_, fun m a b => hu m (by omega)⟩
      rw [(V_0 u (0 + 8)).mpr (fun j hj => hu j (by omega)), show V h1 0 = 0 from rfl, Nat.zero_mul]
    | succ r ih =>
      intro i u n hi hn hu
      obtain ⟨n, rfl⟩ : ∃ m, n = m + 1 := ⟨n - 1, by omega⟩
      show ok (xb_M_multiply_e21_2 fu z h1 (x_M_multiply_e21_2 fu z h1 n) (nI i) u) _
      unfold xb_M_multiply_e21_2
      rw [if_neg (show ¬ (16 : Int32) ≤ nI i from nI_ge (b := 16) (by omega) (by decide))]
      refine ok_gd (inb_nI (by omega) (by decide)) (ok_bnd (ok_bnd ?_))
      rw [nI_clamp (n := i) (by omega), nI_1]
      refine ih (i + 1) _ n (by omega) (by omega) (fun j hj => ?_)
      by_cases e : j = i
      · rw [e, pk_us]
      · rw [pk_un e]; exact hu j (by omega)
  exact hz 16 0 w fu (by omega) (by omega) (fun j hj => absurd hj (Nat.not_lt_zero _))
