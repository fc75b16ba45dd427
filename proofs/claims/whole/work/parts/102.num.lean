-- eight words as one number
set_option maxHeartbeats 200000 in
theorem p32_s (k : Nat) : 2 ^ (32 * (k + 1)) = 2 ^ 32 * 2 ^ (32 * k) := by rw [Nat.mul_succ, Nat.pow_add, Nat.mul_comm]
set_option maxHeartbeats 200000 in
theorem p32_a (i j : Nat) : 2 ^ (32 * (i + j)) = 2 ^ (32 * i) * 2 ^ (32 * j) := by rw [Nat.mul_add, Nat.pow_add]
def V (h : Nat → Int32) : Nat → Nat
  | 0 => 0
  | k + 1 => V h k + U (h k) * 2 ^ (32 * k)
set_option maxHeartbeats 200000 in
theorem V_s (h : Nat → Int32) (k : Nat) : V h (k + 1) = V h k + U (h k) * 2 ^ (32 * k) := rfl
set_option maxHeartbeats 200000 in
theorem V_lt (h : Nat → Int32) : ∀ n, V h n < 2 ^ (32 * n)
  | 0 => by simp [V]
  | k + 1 => by
    unfold V
    have h1 := V_lt h k
    have h2 := U_lt (h k)
    have h3 := p32_s k
    rw [h3]
    have h4 : (U (h k) + 1) * 2 ^ (32 * k) ≤ 2 ^ 32 * 2 ^ (32 * k) := Nat.mul_le_mul_right _ h2
    rw [Nat.add_mul, Nat.one_mul] at h4
    generalize U (h k) * 2 ^ (32 * k) = A at *
    generalize 2 ^ (32 * k) = B at *
    omega
set_option maxHeartbeats 200000 in
theorem V_c {h g : Nat → Int32} : ∀ {n}, (∀ j, j < n → h j = g j) → V h n = V g n
  | 0, _ => rfl
  | n + 1, e => by
    unfold V
    rw [V_c (n := n) (fun j hj => e j (by omega)), e n (by omega)]
/-- an array, its first places written anew -/
def ar (p w : Nat → Int32) : Nat → Nat → Int32
  | 0 => w
  | i + 1 => upd (ar p w i) i (p i)
set_option maxHeartbeats 200000 in
theorem ar_s (p w : Nat → Int32) (i : Nat) : ar p w (i + 1) = upd (ar p w i) i (p i) := rfl
set_option maxHeartbeats 200000 in
theorem ar_ge (p w : Nat → Int32) : ∀ i j, i ≤ j → ar p w i j = w j
  | 0, _, _ => rfl
  | i + 1, j, h => by
    unfold ar
    rw [pk_un (by omega)]
    exact ar_ge p w i j (by omega)
set_option maxHeartbeats 200000 in
theorem ar_lt (p w : Nat → Int32) : ∀ i j, j < i → ar p w i j = p j
  | 0, _, h => absurd h (Nat.not_lt_zero _)
  | i + 1, j, h => by
    unfold ar
    by_cases e : j = i
    · subst e; rw [pk_us]
    · rw [pk_un e]; exact ar_lt p w i j (by omega)
set_option maxHeartbeats 200000 in
theorem lp_up {σ β : Type} (F : Nat → σ → β) (S : Nat → σ) (N : Nat) (h : ∀ n i, i < N → F (n + 1) (S i) = F n (S (i + 1))) : ∀ k n, k ≤ N → F (n + k) (S (N - k)) = F n (S N)
  | 0, n, _ => rfl
  | k + 1, n, hk => by
    have h1 := h (n + k) (N - (k + 1)) (by omega)
    rw [show n + (k + 1) = n + k + 1 by omega, h1, show N - (k + 1) + 1 = N - k by omega]
    exact lp_up F S N h k n (by omega)
set_option maxHeartbeats 200000 in
theorem lp_0 {σ β : Type} (F : Nat → σ → β) (S : Nat → σ) (N : Nat) (h : ∀ n i, i < N → F (n + 1) (S i) = F n (S (i + 1))) (n : Nat) : F (n + N) (S 0) = F n (S N) := by
  have h1 := lp_up F S N h N n (Nat.le_refl N)
  rw [Nat.sub_self] at h1
  exact h1
/-- the carry of a sum -/
def ac (f g : Nat → Int32) : Nat → Nat
  | 0 => 0
  | k + 1 => (ac f g k + (U (f k) + U (g k))) / 2 ^ 32
set_option maxHeartbeats 200000 in
theorem ac_le (f g : Nat → Int32) : ∀ n, ac f g n ≤ 1
  | 0 => Nat.zero_le _
  | k + 1 => by
    unfold ac
    have h1 := ac_le f g k
    have h2 := U_lt (f k)
    have h3 := U_lt (g k)
    omega
set_option maxHeartbeats 200000 in
theorem ac_V (f g r : Nat → Int32) : ∀ n, (∀ j, j < n → r j = nI (ac f g j + (U (f j) + U (g j)))) → V r n + ac f g n * 2 ^ (32 * n) = V f n + V g n
  | 0, _ => rfl
  | k + 1, h => by
    have h1 := ac_V f g r k (fun j hj => h j (by omega))
    unfold V ac
    rw [h k (by omega), U_mod]
    have h3 := p32_s k
    rw [h3]
    generalize 2 ^ (32 * k) = X at *
    generalize hS : ac f g k + (U (f k) + U (g k)) = S
    have h4 : S % 2 ^ 32 * X + S / 2 ^ 32 * (2 ^ 32 * X) = S * X := by
      rw [← Nat.mul_assoc, ← Nat.add_mul, show S % 2 ^ 32 + S / 2 ^ 32 * 2 ^ 32 = S by omega]
    have h5 : S * X = ac f g k * X + (U (f k) * X + U (g k) * X) := by
      rw [← hS, Nat.add_mul, Nat.add_mul]
    generalize S % 2 ^ 32 * X = a1 at *
    generalize S / 2 ^ 32 * (2 ^ 32 * X) = a2 at *
    generalize S * X = a3 at *
    generalize ac f g k * X = a4 at *
    generalize U (f k) * X = a5 at *
    generalize U (g k) * X = a6 at *
    omega
/-- what a difference borrows -/
def sd (x y b : Nat) : Nat := 2 ^ 32 + x - (y + b)
def bw (f g : Nat → Int32) : Nat → Nat
  | 0 => 0
  | k + 1 => if U (f k) < U (g k) + bw f g k then 1 else 0
set_option maxHeartbeats 200000 in
theorem bw_s (f g : Nat → Int32) (k : Nat) : bw f g (k + 1) = if U (f k) < U (g k) + bw f g k then 1 else 0 := rfl
set_option maxHeartbeats 200000 in
theorem bw_le (f g : Nat → Int32) : ∀ n, bw f g n ≤ 1
  | 0 => Nat.zero_le _
  | k + 1 => by unfold bw; split <;> omega
set_option maxHeartbeats 200000 in
theorem bw_V (f g r : Nat → Int32) : ∀ n, (∀ j, j < n → r j = nI (sd (U (f j)) (U (g j)) (bw f g j))) → V r n + V g n = V f n + bw f g n * 2 ^ (32 * n)
  | 0, _ => rfl
  | k + 1, h => by
    have h1 := bw_V f g r k (fun j hj => h j (by omega))
    rw [V_s, V_s, V_s, bw_s, h k (by omega), U_mod]
    unfold sd
    have h3 := p32_s k
    rw [h3]
    have a1 := U_lt (f k)
    have a2 := U_lt (g k)
    have a3 := bw_le f g k
    generalize U (f k) = x at *
    generalize U (g k) = y at *
    generalize bw f g k = b at *
    have h4 : (2 ^ 32 + x - (y + b)) % 2 ^ 32 + (y + b) = x + (if x < y + b then 1 else 0) * 2 ^ 32 := by split <;> omega
    generalize 2 ^ (32 * k) = X at *
    generalize (2 ^ 32 + x - (y + b)) % 2 ^ 32 = q at *
    generalize (if x < y + b then 1 else 0) = d at *
    have h5 : (q + (y + b)) * X = (x + d * 2 ^ 32) * X := by rw [h4]
    rw [Nat.add_mul, Nat.add_mul, Nat.add_mul, Nat.mul_assoc d] at h5
    generalize q * X = a1 at *
    generalize y * X = a2 at *
    generalize b * X = a3 at *
    generalize x * X = a4 at *
    generalize d * (2 ^ 32 * X) = a5 at *
    omega
def k22 (j : Nat) : Int32 := tb_22.getD j 0
def k23 (j : Nat) : Int32 := tb_23.getD j 0
def k24 (j : Nat) : Int32 := tb_24.getD j 0
def k25 (j : Nat) : Int32 := tb_25.getD j 0
set_option maxHeartbeats 200000 in
theorem k22_e (j : Nat) : k22 j = tb_22.getD j 0 := rfl
set_option maxHeartbeats 200000 in
theorem k23_e (j : Nat) : k23 j = tb_23.getD j 0 := rfl
set_option maxHeartbeats 200000 in
theorem k24_e (j : Nat) : k24 j = tb_24.getD j 0 := rfl
set_option maxHeartbeats 200000 in
theorem k25_e (j : Nat) : k25 j = tb_25.getD j 0 := rfl
/-- how numbers compare -/
def cmpN (a b : Nat) : Int32 := if a = b then 0 else if a < b then -1 else 1
set_option maxHeartbeats 200000 in
theorem cmpN_lt (a b : Nat) : cmpN a b < 0 ↔ a < b := by
  unfold cmpN
  by_cases h : a = b
  · rw [if_pos h]; simp [h]
  · rw [if_neg h]
    by_cases h2 : a < b
    · rw [if_pos h2]; simp [h2]
    · rw [if_neg h2]; simp [h2]
set_option maxHeartbeats 200000 in
theorem cmpN_ge (a b : Nat) : 0 ≤ cmpN a b ↔ b ≤ a := by
  rw [← Int32.not_lt, cmpN_lt]; omega
set_option maxHeartbeats 200000 in
theorem cmpN_eq (a b : Nat) : cmpN a b = 0 ↔ a = b := by
  unfold cmpN
  by_cases h : a = b
  · simp [h]
  · rw [if_neg h]
    by_cases h2 : a < b
    · rw [if_pos h2]; simp [h]
    · rw [if_neg h2]; simp [h]
set_option maxHeartbeats 200000 in
theorem cmpN_le (a b : Nat) : cmpN a b ≤ 0 ↔ a ≤ b := by
  unfold cmpN
  by_cases h : a = b
  · rw [if_pos h]; simp [h]
  · rw [if_neg h]
    by_cases h2 : a < b
    · rw [if_pos h2]; simp; omega
    · rw [if_neg h2]; simp; omega
set_option maxHeartbeats 200000 in
theorem ig_a (z : Int32) : z + (-2147483648 : Int32) = nI (U z + 2147483648) := by
  have h : (-2147483648 : Int32) = nI 2147483648 := by decide
  rw [h, ← nI_add, nI_U]
set_option maxHeartbeats 200000 in
theorem ig_b (z : Int32) : (z + (-2147483648 : Int32)).toInt = (U z : Int) - 2147483648 := by
  have hz := U_lt z
  rw [ig_a, i_toInt, U_mod]
  generalize U z = n at *
  split <;> omega
set_option maxHeartbeats 200000 in
theorem ig_c (fu : Nat) (a b : Int32) : x_Ig_compare fu a b = some (if a = b then 0 else if a.toInt < b.toInt then -1 else 1) := by
  unfold x_Ig_compare
  by_cases h : b ≤ a
  · rw [if_pos h]
    by_cases h2 : a = b
    · rw [if_pos h2, if_pos h2]
    · rw [if_neg h2, if_neg h2, if_neg (by rw [Int32.le_iff_toInt_le] at h; omega)]
  · rw [if_neg h, if_neg (fun e => h (by rw [e]; exact Int32.le_refl _)), if_pos (by rw [Int32.le_iff_toInt_le] at h; omega)]
set_option maxHeartbeats 200000 in
theorem ig_d (fu : Nat) (x y : Int32) : x_Ig_compareUnsigned fu x y = bd1 (x_Ig_compare fu (x + (-2147483648 : Int32)) (y + (-2147483648 : Int32))) fun v => some v := by
  unfold x_Ig_compareUnsigned
  rw [bnd_q, bnd_q]
set_option maxHeartbeats 200000 in
theorem ig_cu (fu : Nat) (x y : Int32) : x_Ig_compareUnsigned fu x y = some (cmpN (U x) (U y)) := by
  rw [ig_d, ig_c, ig_b, ig_b]
  show some _ = some _
  unfold cmpN
  have h3 : x + (-2147483648 : Int32) = y + (-2147483648 : Int32) ↔ U x = U y := by
    constructor
    · intro h
      have := congrArg Int32.toInt h
      rw [ig_b, ig_b] at this
      omega
    · intro h
      rw [U_inj h]
  have h4 : ((U x : Int) - 2147483648 < (U y : Int) - 2147483648) ↔ U x < U y := by omega
  simp only [h3, h4]
set_option maxHeartbeats 200000 in
theorem V_top (f g : Nat → Int32) (k : Nat) (h : U (f k) < U (g k)) : V f (k + 1) < V g (k + 1) := by
  unfold V
  have h1 := V_lt f k
  have h2 : (U (f k) + 1) * 2 ^ (32 * k) ≤ U (g k) * 2 ^ (32 * k) := Nat.mul_le_mul_right _ h
  rw [Nat.add_mul, Nat.one_mul] at h2
  generalize U (f k) * 2 ^ (32 * k) = A at *
  generalize U (g k) * 2 ^ (32 * k) = B at *
  generalize 2 ^ (32 * k) = C at *
  omega
set_option maxHeartbeats 200000 in
theorem cmp_top (f g : Nat → Int32) (k : Nat) (h : U (f k) ≠ U (g k)) : cmpN (U (f k)) (U (g k)) = cmpN (V f (k + 1)) (V g (k + 1)) := by
  by_cases h1 : U (f k) < U (g k)
  · have h2 := V_top f g k h1
    unfold cmpN
    rw [if_neg h, if_pos h1, if_neg (by omega), if_pos h2]
  · have h2 := V_top g f k (by omega)
    unfold cmpN
    rw [if_neg h, if_neg h1, if_neg (by omega), if_neg (by omega)]
set_option maxHeartbeats 200000 in
theorem cmp_eq (f g : Nat → Int32) (k : Nat) (h : f k = g k) : cmpN (V f (k + 1)) (V g (k + 1)) = cmpN (V f k) (V g k) := by
  unfold cmpN
  rw [V_s, V_s, h]
  generalize U (g k) * 2 ^ (32 * k) = A
  by_cases h1 : V f k = V g k
  · rw [if_pos h1, if_pos (by omega)]
  · rw [if_neg h1, if_neg (by omega)]
    by_cases h2 : V f k < V g k
    · rw [if_pos h2, if_pos (by omega)]
    · rw [if_neg h2, if_neg (by omega)]
/-- the carry of a difference, in 64 bits -/
def cb (b : Nat) : Int64 := if b = 0 then 0 else -1
set_option maxHeartbeats 200000 in
theorem cb_0 : cb 0 = 0 := rfl
set_option maxHeartbeats 200000 in
theorem cb_1 : cb 1 = -1 := rfl
set_option maxHeartbeats 200000 in
theorem sb_step {x y b : Nat} (hx : x < 2 ^ 32) (hy : y < 2 ^ 32) (hb : b ≤ 1) : (lN x - lN y + cb b).toInt32 = nI (sd x y b) ∧ (lN x - lN y + cb b) >>> ((32 : Int32).toInt64 &&& 63) = cb (if x < y + b then 1 else 0) := by
  have e : lN x - lN y + cb b = lN (2 ^ 64 + x - (y + b)) := by
    have h0 : lN (2 ^ 64 + x - (y + b)) + (lN y + lN b) = lN x := by
      rw [lN_add, lN_add]
      rw [show 2 ^ 64 + x - (y + b) + (y + b) = 2 ^ 64 + x by omega]
      apply l_inj
      rw [lN_bv, lN_bv, BitVec.toNat_ofNat, BitVec.toNat_ofNat]
      omega
    have h1 : cb b = - lN b := by
      have : b = 0 ∨ b = 1 := by omega
      rcases this with rfl | rfl <;> rfl
    rw [h1, ← h0]
    generalize lN y = Y
    generalize lN b = B
    generalize lN (2 ^ 64 + x - (y + b)) = R
    grind
  rw [e]
  refine ⟨?_, ?_⟩
  · rw [lN_i]
    apply U_inj
    rw [U_mod, U_mod]
    unfold sd
    omega
  · apply Int64.toInt_inj.mp
    have h1 : (lN (2 ^ 64 + x - (y + b)) >>> ((32 : Int32).toInt64 &&& 63)).toInt = (lN (2 ^ 64 + x - (y + b))).toInt >>> 32 := by
      show ((lN (2 ^ 64 + x - (y + b))).toBitVec.sshiftRight 32).toInt = _
      rw [BitVec.toInt_sshiftRight]
      rfl
    rw [h1, l_toInt, Int.shiftRight_eq_div_pow]
    rw [lN_bv, BitVec.toNat_ofNat]
    by_cases h : x < y + b
    · rw [if_pos h]
      have h2 : (2 ^ 64 + x - (y + b)) % 2 ^ 64 = 2 ^ 64 + x - (y + b) := by omega
      rw [h2, if_neg (by omega)]
      show _ = (-1 : Int)
      omega
    · rw [if_neg h]
      have h2 : (2 ^ 64 + x - (y + b)) % 2 ^ 64 = x - (y + b) := by omega
      rw [h2, if_pos (by omega)]
      show _ = (0 : Int)
      omega

set_option maxHeartbeats 400000 in
theorem t_M_add (fu : Nat) (hfu : 9 ≤ fu) (h1 : Nat → Int32) (h2 : Nat → Int32) (w : Nat → Int32) : ∃ r, x_M_add fu h1 h2 w = some ((lN (ac h1 h2 8)).toInt32, r) ∧ ∀ j, j < 8 → r j = (fun j => nI (ac h1 h2 j + (U (h1 j) + U (h2 j)))) j := by
  have hs : ∀ n i, i < 8 → (fun (n : Nat) (s : Int64 × Int32 × (Nat → Int32)) => x_M_add_5 fu h1 h2 n s.1 s.2.1 s.2.2) (n + 1) ((fun i : Nat => (lN (ac h1 h2 i), nI i, ar (fun j => nI (ac h1 h2 j + (U (h1 j) + U (h2 j)))) w i)) i) = (fun (n : Nat) (s : Int64 × Int32 × (Nat → Int32)) => x_M_add_5 fu h1 h2 n s.1 s.2.1 s.2.2) n ((fun i : Nat => (lN (ac h1 h2 i), nI i, ar (fun j => nI (ac h1 h2 j + (U (h1 j) + U (h2 j)))) w i)) (i + 1)) := by
    intro n i hi
    show xb_M_add_5 fu h1 h2 (x_M_add_5 fu h1 h2 n) (lN (ac h1 h2 i)) (nI i) (ar (fun j => nI (ac h1 h2 j + (U (h1 j) + U (h2 j)))) w i) = _
    unfold xb_M_add_5
    rw [if_neg (show ¬ (8 : Int32) ≤ nI i from nI_ge (b := 8) hi (by decide))]
    simp only [↓bnd_q]
    rw [gd_t (inb_nI hi (by decide)), gd_t (inb_nI hi (by decide)), gd_t (inb_nI hi (by decide)), nI_clamp (n := i) (by omega)]
    simp only [l_mask, lN_add, lN_i, nI_1]
    rw [l_shr (by have := ac_le h1 h2 i; have := U_lt (h1 i); have := U_lt (h2 i); omega)]
    rfl
  obtain ⟨n, hn⟩ : ∃ n, fu = (n + 1) + 8 := ⟨fu - 9, by omega⟩
  have h : x_M_add_5 fu h1 h2 (n + 1 + 8) (lN (ac h1 h2 0)) (nI 0) (ar (fun j => nI (ac h1 h2 j + (U (h1 j) + U (h2 j)))) w 0) = x_M_add_5 fu h1 h2 (n + 1) (lN (ac h1 h2 8)) (nI 8) (ar (fun j => nI (ac h1 h2 j + (U (h1 j) + U (h2 j)))) w 8) := lp_0 (fun (n : Nat) (s : Int64 × Int32 × (Nat → Int32)) => x_M_add_5 fu h1 h2 n s.1 s.2.1 s.2.2) (fun i : Nat => (lN (ac h1 h2 i), nI i, ar (fun j => nI (ac h1 h2 j + (U (h1 j) + U (h2 j)))) w i)) 8 hs (n + 1)
  have h0 : x_M_add fu h1 h2 w = x_M_add_5 fu h1 h2 (n + 1 + 8) (lN (ac h1 h2 0)) (nI 0) (ar (fun j => nI (ac h1 h2 j + (U (h1 j) + U (h2 j)))) w 0) := by
    rw [← hn]
    rfl
  refine ⟨ar (fun j => nI (ac h1 h2 j + (U (h1 j) + U (h2 j)))) w 8, ?_, fun j hj => ar_lt _ _ 8 j hj⟩
  rw [h0, h]
  clear h0 h hs
  generalize ar (fun j => nI (ac h1 h2 j + (U (h1 j) + U (h2 j)))) w 8 = R
  generalize lN (ac h1 h2 8) = C
  show xb_M_add_5 _ h1 h2 (x_M_add_5 _ h1 h2 n) C (nI 8) R = _
  unfold xb_M_add_5
  rw [if_pos (show (8 : Int32) ≤ nI 8 from by decide), bnd_q]
set_option maxHeartbeats 200000 in
theorem v_M_add (fu : Nat) (hfu : 9 ≤ fu) (h1 : Nat → Int32) (h2 : Nat → Int32) (w : Nat → Int32) : ∃ (c : Nat) (r : Nat → Int32), x_M_add fu h1 h2 w = some (nI c, r) ∧ c ≤ 1 ∧ V r 8 + c * 2 ^ 256 = V h1 8 + V h2 8 := by
  obtain ⟨r, e, h⟩ := t_M_add fu hfu h1 h2 w
  rw [lN_i] at e
  exact ⟨_, r, e, ac_le _ _ 8, ac_V _ _ r 8 h⟩

set_option maxHeartbeats 400000 in
theorem t_M_add_e10 (fu : Nat) (hfu : 9 ≤ fu) (h2 : Nat → Int32) (w : Nat → Int32) : ∃ r, x_M_add_e10 fu h2 w = some ((lN (ac w h2 8)).toInt32, r) ∧ ∀ j, j < 8 → r j = (fun j => nI (ac w h2 j + (U (w j) + U (h2 j)))) j := by
  have hs : ∀ n i, i < 8 → (fun (n : Nat) (s : Int64 × Int32 × (Nat → Int32)) => x_M_add_e10_5 fu h2 n s.1 s.2.1 s.2.2) (n + 1) ((fun i : Nat => (lN (ac w h2 i), nI i, ar (fun j => nI (ac w h2 j + (U (w j) + U (h2 j)))) w i)) i) = (fun (n : Nat) (s : Int64 × Int32 × (Nat → Int32)) => x_M_add_e10_5 fu h2 n s.1 s.2.1 s.2.2) n ((fun i : Nat => (lN (ac w h2 i), nI i, ar (fun j => nI (ac w h2 j + (U (w j) + U (h2 j)))) w i)) (i + 1)) := by
    intro n i hi
    show xb_M_add_e10_5 fu h2 (x_M_add_e10_5 fu h2 n) (lN (ac w h2 i)) (nI i) (ar (fun j => nI (ac w h2 j + (U (w j) + U (h2 j)))) w i) = _
    unfold xb_M_add_e10_5
    rw [if_neg (show ¬ (8 : Int32) ≤ nI i from nI_ge (b := 8) hi (by decide))]
    simp only [↓bnd_q]
    rw [gd_t (inb_nI hi (by decide)), gd_t (inb_nI hi (by decide)), gd_t (inb_nI hi (by decide)), nI_clamp (n := i) (by omega), ar_ge _ _ i i (Nat.le_refl i)]
    simp only [l_mask, lN_add, lN_i, nI_1]
    rw [l_shr (by have := ac_le w h2 i; have := U_lt (w i); have := U_lt (h2 i); omega)]
    rfl
  obtain ⟨n, hn⟩ : ∃ n, fu = (n + 1) + 8 := ⟨fu - 9, by omega⟩
  have h : x_M_add_e10_5 fu h2 (n + 1 + 8) (lN (ac w h2 0)) (nI 0) (ar (fun j => nI (ac w h2 j + (U (w j) + U (h2 j)))) w 0) = x_M_add_e10_5 fu h2 (n + 1) (lN (ac w h2 8)) (nI 8) (ar (fun j => nI (ac w h2 j + (U (w j) + U (h2 j)))) w 8) := lp_0 (fun (n : Nat) (s : Int64 × Int32 × (Nat → Int32)) => x_M_add_e10_5 fu h2 n s.1 s.2.1 s.2.2) (fun i : Nat => (lN (ac w h2 i), nI i, ar (fun j => nI (ac w h2 j + (U (w j) + U (h2 j)))) w i)) 8 hs (n + 1)
  have h0 : x_M_add_e10 fu h2 w = x_M_add_e10_5 fu h2 (n + 1 + 8) (lN (ac w h2 0)) (nI 0) (ar (fun j => nI (ac w h2 j + (U (w j) + U (h2 j)))) w 0) := by
    rw [← hn]
    rfl
  refine ⟨ar (fun j => nI (ac w h2 j + (U (w j) + U (h2 j)))) w 8, ?_, fun j hj => ar_lt _ _ 8 j hj⟩
  rw [h0, h]
  clear h0 h hs
  generalize ar (fun j => nI (ac w h2 j + (U (w j) + U (h2 j)))) w 8 = R
  generalize lN (ac w h2 8) = C
  show xb_M_add_e10_5 _ h2 (x_M_add_e10_5 _ h2 n) C (nI 8) R = _
  unfold xb_M_add_e10_5
  rw [if_pos (show (8 : Int32) ≤ nI 8 from by decide), bnd_q]
set_option maxHeartbeats 200000 in
theorem v_M_add_e10 (fu : Nat) (hfu : 9 ≤ fu) (h2 : Nat → Int32) (w : Nat → Int32) : ∃ (c : Nat) (r : Nat → Int32), x_M_add_e10 fu h2 w = some (nI c, r) ∧ c ≤ 1 ∧ V r 8 + c * 2 ^ 256 = V w 8 + V h2 8 := by
  obtain ⟨r, e, h⟩ := t_M_add_e10 fu hfu h2 w
  rw [lN_i] at e
  exact ⟨_, r, e, ac_le _ _ 8, ac_V _ _ r 8 h⟩

set_option maxHeartbeats 400000 in
theorem t_M_add_s1x22 (fu : Nat) (hfu : 9 ≤ fu) (h2 : Nat → Int32) (w : Nat → Int32) : ∃ r, x_M_add_s1x22 fu h2 w = some ((lN (ac k22 h2 8)).toInt32, r) ∧ ∀ j, j < 8 → r j = (fun j => nI (ac k22 h2 j + (U (k22 j) + U (h2 j)))) j := by
  have hs : ∀ n i, i < 8 → (fun (n : Nat) (s : Int64 × Int32 × (Nat → Int32)) => x_M_add_s1x22_5 fu h2 n s.1 s.2.1 s.2.2) (n + 1) ((fun i : Nat => (lN (ac k22 h2 i), nI i, ar (fun j => nI (ac k22 h2 j + (U (k22 j) + U (h2 j)))) w i)) i) = (fun (n : Nat) (s : Int64 × Int32 × (Nat → Int32)) => x_M_add_s1x22_5 fu h2 n s.1 s.2.1 s.2.2) n ((fun i : Nat => (lN (ac k22 h2 i), nI i, ar (fun j => nI (ac k22 h2 j + (U (k22 j) + U (h2 j)))) w i)) (i + 1)) := by
    intro n i hi
    show xb_M_add_s1x22_5 fu h2 (x_M_add_s1x22_5 fu h2 n) (lN (ac k22 h2 i)) (nI i) (ar (fun j => nI (ac k22 h2 j + (U (k22 j) + U (h2 j)))) w i) = _
    unfold xb_M_add_s1x22_5
    rw [if_neg (show ¬ (8 : Int32) ≤ nI i from nI_ge (b := 8) hi (by decide))]
    simp only [↓bnd_q]
    rw [gd_t (inb_nI hi (by decide)), gd_t (inb_nI hi (by decide)), gd_t (inb_nI hi (by decide)), nI_clamp (n := i) (by omega), ← k22_e]
    simp only [l_mask, lN_add, lN_i, nI_1]
    rw [l_shr (by have := ac_le k22 h2 i; have := U_lt (k22 i); have := U_lt (h2 i); omega)]
    rfl
  obtain ⟨n, hn⟩ : ∃ n, fu = (n + 1) + 8 := ⟨fu - 9, by omega⟩
  have h : x_M_add_s1x22_5 fu h2 (n + 1 + 8) (lN (ac k22 h2 0)) (nI 0) (ar (fun j => nI (ac k22 h2 j + (U (k22 j) + U (h2 j)))) w 0) = x_M_add_s1x22_5 fu h2 (n + 1) (lN (ac k22 h2 8)) (nI 8) (ar (fun j => nI (ac k22 h2 j + (U (k22 j) + U (h2 j)))) w 8) := lp_0 (fun (n : Nat) (s : Int64 × Int32 × (Nat → Int32)) => x_M_add_s1x22_5 fu h2 n s.1 s.2.1 s.2.2) (fun i : Nat => (lN (ac k22 h2 i), nI i, ar (fun j => nI (ac k22 h2 j + (U (k22 j) + U (h2 j)))) w i)) 8 hs (n + 1)
  have h0 : x_M_add_s1x22 fu h2 w = x_M_add_s1x22_5 fu h2 (n + 1 + 8) (lN (ac k22 h2 0)) (nI 0) (ar (fun j => nI (ac k22 h2 j + (U (k22 j) + U (h2 j)))) w 0) := by
    rw [← hn]
    rfl
  refine ⟨ar (fun j => nI (ac k22 h2 j + (U (k22 j) + U (h2 j)))) w 8, ?_, fun j hj => ar_lt _ _ 8 j hj⟩
  rw [h0, h]
  clear h0 h hs
  generalize ar (fun j => nI (ac k22 h2 j + (U (k22 j) + U (h2 j)))) w 8 = R
  generalize lN (ac k22 h2 8) = C
  show xb_M_add_s1x22_5 _ h2 (x_M_add_s1x22_5 _ h2 n) C (nI 8) R = _
  unfold xb_M_add_s1x22_5
  rw [if_pos (show (8 : Int32) ≤ nI 8 from by decide), bnd_q]
set_option maxHeartbeats 200000 in
theorem v_M_add_s1x22 (fu : Nat) (hfu : 9 ≤ fu) (h2 : Nat → Int32) (w : Nat → Int32) : ∃ (c : Nat) (r : Nat → Int32), x_M_add_s1x22 fu h2 w = some (nI c, r) ∧ c ≤ 1 ∧ V r 8 + c * 2 ^ 256 = V k22 8 + V h2 8 := by
  obtain ⟨r, e, h⟩ := t_M_add_s1x22 fu hfu h2 w
  rw [lN_i] at e
  exact ⟨_, r, e, ac_le _ _ 8, ac_V _ _ r 8 h⟩

set_option maxHeartbeats 400000 in
theorem t_M_add_e10s2x23 (fu : Nat) (hfu : 9 ≤ fu)  (w : Nat → Int32) : ∃ r, x_M_add_e10s2x23 fu  w = some ((lN (ac w k23 8)).toInt32, r) ∧ ∀ j, j < 8 → r j = (fun j => nI (ac w k23 j + (U (w j) + U (k23 j)))) j := by
  have hs : ∀ n i, i < 8 → (fun (n : Nat) (s : Int64 × Int32 × (Nat → Int32)) => x_M_add_e10s2x23_5 fu  n s.1 s.2.1 s.2.2) (n + 1) ((fun i : Nat => (lN (ac w k23 i), nI i, ar (fun j => nI (ac w k23 j + (U (w j) + U (k23 j)))) w i)) i) = (fun (n : Nat) (s : Int64 × Int32 × (Nat → Int32)) => x_M_add_e10s2x23_5 fu  n s.1 s.2.1 s.2.2) n ((fun i : Nat => (lN (ac w k23 i), nI i, ar (fun j => nI (ac w k23 j + (U (w j) + U (k23 j)))) w i)) (i + 1)) := by
    intro n i hi
    show xb_M_add_e10s2x23_5 fu  (x_M_add_e10s2x23_5 fu  n) (lN (ac w k23 i)) (nI i) (ar (fun j => nI (ac w k23 j + (U (w j) + U (k23 j)))) w i) = _
    unfold xb_M_add_e10s2x23_5
    rw [if_neg (show ¬ (8 : Int32) ≤ nI i from nI_ge (b := 8) hi (by decide))]
    simp only [↓bnd_q]
    rw [gd_t (inb_nI hi (by decide)), gd_t (inb_nI hi (by decide)), gd_t (inb_nI hi (by decide)), nI_clamp (n := i) (by omega), ar_ge _ _ i i (Nat.le_refl i), ← k23_e]
    simp only [l_mask, lN_add, lN_i, nI_1]
    rw [l_shr (by have := ac_le w k23 i; have := U_lt (w i); have := U_lt (k23 i); omega)]
    rfl
  obtain ⟨n, hn⟩ : ∃ n, fu = (n + 1) + 8 := ⟨fu - 9, by omega⟩
  have h : x_M_add_e10s2x23_5 fu  (n + 1 + 8) (lN (ac w k23 0)) (nI 0) (ar (fun j => nI (ac w k23 j + (U (w j) + U (k23 j)))) w 0) = x_M_add_e10s2x23_5 fu  (n + 1) (lN (ac w k23 8)) (nI 8) (ar (fun j => nI (ac w k23 j + (U (w j) + U (k23 j)))) w 8) := lp_0 (fun (n : Nat) (s : Int64 × Int32 × (Nat → Int32)) => x_M_add_e10s2x23_5 fu  n s.1 s.2.1 s.2.2) (fun i : Nat => (lN (ac w k23 i), nI i, ar (fun j => nI (ac w k23 j + (U (w j) + U (k23 j)))) w i)) 8 hs (n + 1)
  have h0 : x_M_add_e10s2x23 fu  w = x_M_add_e10s2x23_5 fu  (n + 1 + 8) (lN (ac w k23 0)) (nI 0) (ar (fun j => nI (ac w k23 j + (U (w j) + U (k23 j)))) w 0) := by
    rw [← hn]
    rfl
  refine ⟨ar (fun j => nI (ac w k23 j + (U (w j) + U (k23 j)))) w 8, ?_, fun j hj => ar_lt _ _ 8 j hj⟩
  rw [h0, h]
  clear h0 h hs
  generalize ar (fun j => nI (ac w k23 j + (U (w j) + U (k23 j)))) w 8 = R
  generalize lN (ac w k23 8) = C
  show xb_M_add_e10s2x23_5 _  (x_M_add_e10s2x23_5 _  n) C (nI 8) R = _
  unfold xb_M_add_e10s2x23_5
  rw [if_pos (show (8 : Int32) ≤ nI 8 from by decide), bnd_q]
set_option maxHeartbeats 200000 in
theorem v_M_add_e10s2x23 (fu : Nat) (hfu : 9 ≤ fu)  (w : Nat → Int32) : ∃ (c : Nat) (r : Nat → Int32), x_M_add_e10s2x23 fu  w = some (nI c, r) ∧ c ≤ 1 ∧ V r 8 + c * 2 ^ 256 = V w 8 + V k23 8 := by
  obtain ⟨r, e, h⟩ := t_M_add_e10s2x23 fu hfu  w
  rw [lN_i] at e
  exact ⟨_, r, e, ac_le _ _ 8, ac_V _ _ r 8 h⟩

set_option maxHeartbeats 400000 in
theorem t_M_add_e10e20 (fu : Nat) (hfu : 9 ≤ fu)  (w : Nat → Int32) : ∃ r, x_M_add_e10e20 fu  w = some ((lN (ac w w 8)).toInt32, r) ∧ ∀ j, j < 8 → r j = (fun j => nI (ac w w j + (U (w j) + U (w j)))) j := by
  have hs : ∀ n i, i < 8 → (fun (n : Nat) (s : Int64 × Int32 × (Nat → Int32)) => x_M_add_e10e20_5 fu  n s.1 s.2.1 s.2.2) (n + 1) ((fun i : Nat => (lN (ac w w i), nI i, ar (fun j => nI (ac w w j + (U (w j) + U (w j)))) w i)) i) = (fun (n : Nat) (s : Int64 × Int32 × (Nat → Int32)) => x_M_add_e10e20_5 fu  n s.1 s.2.1 s.2.2) n ((fun i : Nat => (lN (ac w w i), nI i, ar (fun j => nI (ac w w j + (U (w j) + U (w j)))) w i)) (i + 1)) := by
    intro n i hi
    show xb_M_add_e10e20_5 fu  (x_M_add_e10e20_5 fu  n) (lN (ac w w i)) (nI i) (ar (fun j => nI (ac w w j + (U (w j) + U (w j)))) w i) = _
    unfold xb_M_add_e10e20_5
    rw [if_neg (show ¬ (8 : Int32) ≤ nI i from nI_ge (b := 8) hi (by decide))]
    simp only [↓bnd_q]
    rw [gd_t (inb_nI hi (by decide)), gd_t (inb_nI hi (by decide)), gd_t (inb_nI hi (by decide)), nI_clamp (n := i) (by omega), ar_ge _ _ i i (Nat.le_refl i)]
    simp only [l_mask, lN_add, lN_i, nI_1]
    rw [l_shr (by have := ac_le w w i; have := U_lt (w i); have := U_lt (w i); omega)]
    rfl
  obtain ⟨n, hn⟩ : ∃ n, fu = (n + 1) + 8 := ⟨fu - 9, by omega⟩
  have h : x_M_add_e10e20_5 fu  (n + 1 + 8) (lN (ac w w 0)) (nI 0) (ar (fun j => nI (ac w w j + (U (w j) + U (w j)))) w 0) = x_M_add_e10e20_5 fu  (n + 1) (lN (ac w w 8)) (nI 8) (ar (fun j => nI (ac w w j + (U (w j) + U (w j)))) w 8) := lp_0 (fun (n : Nat) (s : Int64 × Int32 × (Nat → Int32)) => x_M_add_e10e20_5 fu  n s.1 s.2.1 s.2.2) (fun i : Nat => (lN (ac w w i), nI i, ar (fun j => nI (ac w w j + (U (w j) + U (w j)))) w i)) 8 hs (n + 1)
  have h0 : x_M_add_e10e20 fu  w = x_M_add_e10e20_5 fu  (n + 1 + 8) (lN (ac w w 0)) (nI 0) (ar (fun j => nI (ac w w j + (U (w j) + U (w j)))) w 0) := by
    rw [← hn]
    rfl
  refine ⟨ar (fun j => nI (ac w w j + (U (w j) + U (w j)))) w 8, ?_, fun j hj => ar_lt _ _ 8 j hj⟩
  rw [h0, h]
  clear h0 h hs
  generalize ar (fun j => nI (ac w w j + (U (w j) + U (w j)))) w 8 = R
  generalize lN (ac w w 8) = C
  show xb_M_add_e10e20_5 _  (x_M_add_e10e20_5 _  n) C (nI 8) R = _
  unfold xb_M_add_e10e20_5
  rw [if_pos (show (8 : Int32) ≤ nI 8 from by decide), bnd_q]
set_option maxHeartbeats 200000 in
theorem v_M_add_e10e20 (fu : Nat) (hfu : 9 ≤ fu)  (w : Nat → Int32) : ∃ (c : Nat) (r : Nat → Int32), x_M_add_e10e20 fu  w = some (nI c, r) ∧ c ≤ 1 ∧ V r 8 + c * 2 ^ 256 = V w 8 + V w 8 := by
  obtain ⟨r, e, h⟩ := t_M_add_e10e20 fu hfu  w
  rw [lN_i] at e
  exact ⟨_, r, e, ac_le _ _ 8, ac_V _ _ r 8 h⟩

set_option maxHeartbeats 400000 in
theorem t_M_add_e10s2x22 (fu : Nat) (hfu : 9 ≤ fu)  (w : Nat → Int32) : ∃ r, x_M_add_e10s2x22 fu  w = some ((lN (ac w k22 8)).toInt32, r) ∧ ∀ j, j < 8 → r j = (fun j => nI (ac w k22 j + (U (w j) + U (k22 j)))) j := by
  have hs : ∀ n i, i < 8 → (fun (n : Nat) (s : Int64 × Int32 × (Nat → Int32)) => x_M_add_e10s2x22_5 fu  n s.1 s.2.1 s.2.2) (n + 1) ((fun i : Nat => (lN (ac w k22 i), nI i, ar (fun j => nI (ac w k22 j + (U (w j) + U (k22 j)))) w i)) i) = (fun (n : Nat) (s : Int64 × Int32 × (Nat → Int32)) => x_M_add_e10s2x22_5 fu  n s.1 s.2.1 s.2.2) n ((fun i : Nat => (lN (ac w k22 i), nI i, ar (fun j => nI (ac w k22 j + (U (w j) + U (k22 j)))) w i)) (i + 1)) := by
    intro n i hi
    show xb_M_add_e10s2x22_5 fu  (x_M_add_e10s2x22_5 fu  n) (lN (ac w k22 i)) (nI i) (ar (fun j => nI (ac w k22 j + (U (w j) + U (k22 j)))) w i) = _
    unfold xb_M_add_e10s2x22_5
    rw [if_neg (show ¬ (8 : Int32) ≤ nI i from nI_ge (b := 8) hi (by decide))]
    simp only [↓bnd_q]
    rw [gd_t (inb_nI hi (by decide)), gd_t (inb_nI hi (by decide)), gd_t (inb_nI hi (by decide)), nI_clamp (n := i) (by omega), ar_ge _ _ i i (Nat.le_refl i), ← k22_e]
    simp only [l_mask, lN_add, lN_i, nI_1]
    rw [l_shr (by have := ac_le w k22 i; have := U_lt (w i); have := U_lt (k22 i); omega)]
    rfl
  obtain ⟨n, hn⟩ : ∃ n, fu = (n + 1) + 8 := ⟨fu - 9, by omega⟩
  have h : x_M_add_e10s2x22_5 fu  (n + 1 + 8) (lN (ac w k22 0)) (nI 0) (ar (fun j => nI (ac w k22 j + (U (w j) + U (k22 j)))) w 0) = x_M_add_e10s2x22_5 fu  (n + 1) (lN (ac w k22 8)) (nI 8) (ar (fun j => nI (ac w k22 j + (U (w j) + U (k22 j)))) w 8) := lp_0 (fun (n : Nat) (s : Int64 × Int32 × (Nat → Int32)) => x_M_add_e10s2x22_5 fu  n s.1 s.2.1 s.2.2) (fun i : Nat => (lN (ac w k22 i), nI i, ar (fun j => nI (ac w k22 j + (U (w j) + U (k22 j)))) w i)) 8 hs (n + 1)
  have h0 : x_M_add_e10s2x22 fu  w = x_M_add_e10s2x22_5 fu  (n + 1 + 8) (lN (ac w k22 0)) (nI 0) (ar (fun j => nI (ac w k22 j + (U (w j) + U (k22 j)))) w 0) := by
    rw [← hn]
    rfl
  refine ⟨ar (fun j => nI (ac w k22 j + (U (w j) + U (k22 j)))) w 8, ?_, fun j hj => ar_lt _ _ 8 j hj⟩
  rw [h0, h]
  clear h0 h hs
  generalize ar (fun j => nI (ac w k22 j + (U (w j) + U (k22 j)))) w 8 = R
  generalize lN (ac w k22 8) = C
  show xb_M_add_e10s2x22_5 _  (x_M_add_e10s2x22_5 _  n) C (nI 8) R = _
  unfold xb_M_add_e10s2x22_5
  rw [if_pos (show (8 : Int32) ≤ nI 8 from by decide), bnd_q]
set_option maxHeartbeats 200000 in
theorem v_M_add_e10s2x22 (fu : Nat) (hfu : 9 ≤ fu)  (w : Nat → Int32) : ∃ (c : Nat) (r : Nat → Int32), x_M_add_e10s2x22 fu  w = some (nI c, r) ∧ c ≤ 1 ∧ V r 8 + c * 2 ^ 256 = V w 8 + V k22 8 := by
  obtain ⟨r, e, h⟩ := t_M_add_e10s2x22 fu hfu  w
  rw [lN_i] at e
  exact ⟨_, r, e, ac_le _ _ 8, ac_V _ _ r 8 h⟩

set_option maxHeartbeats 400000 in
theorem t_M_add_e21 (fu : Nat) (hfu : 9 ≤ fu) (h1 : Nat → Int32) (w : Nat → Int32) : ∃ r, x_M_add_e21 fu h1 w = some ((lN (ac h1 h1 8)).toInt32, r) ∧ ∀ j, j < 8 → r j = (fun j => nI (ac h1 h1 j + (U (h1 j) + U (h1 j)))) j := by
  have hs : ∀ n i, i < 8 → (fun (n : Nat) (s : Int64 × Int32 × (Nat → Int32)) => x_M_add_e21_5 fu h1 n s.1 s.2.1 s.2.2) (n + 1) ((fun i : Nat => (lN (ac h1 h1 i), nI i, ar (fun j => nI (ac h1 h1 j + (U (h1 j) + U (h1 j)))) w i)) i) = (fun (n : Nat) (s : Int64 × Int32 × (Nat → Int32)) => x_M_add_e21_5 fu h1 n s.1 s.2.1 s.2.2) n ((fun i : Nat => (lN (ac h1 h1 i), nI i, ar (fun j => nI (ac h1 h1 j + (U (h1 j) + U (h1 j)))) w i)) (i + 1)) := by
    intro n i hi
    show xb_M_add_e21_5 fu h1 (x_M_add_e21_5 fu h1 n) (lN (ac h1 h1 i)) (nI i) (ar (fun j => nI (ac h1 h1 j + (U (h1 j) + U (h1 j)))) w i) = _
    unfold xb_M_add_e21_5
    rw [if_neg (show ¬ (8 : Int32) ≤ nI i from nI_ge (b := 8) hi (by decide))]
    simp only [↓bnd_q]
    rw [gd_t (inb_nI hi (by decide)), gd_t (inb_nI hi (by decide)), gd_t (inb_nI hi (by decide)), nI_clamp (n := i) (by omega)]
    simp only [l_mask, lN_add, lN_i, nI_1]
    rw [l_shr (by have := ac_le h1 h1 i; have := U_lt (h1 i); have := U_lt (h1 i); omega)]
    rfl
  obtain ⟨n, hn⟩ : ∃ n, fu = (n + 1) + 8 := ⟨fu - 9, by omega⟩
  have h : x_M_add_e21_5 fu h1 (n + 1 + 8) (lN (ac h1 h1 0)) (nI 0) (ar (fun j => nI (ac h1 h1 j + (U (h1 j) + U (h1 j)))) w 0) = x_M_add_e21_5 fu h1 (n + 1) (lN (ac h1 h1 8)) (nI 8) (ar (fun j => nI (ac h1 h1 j + (U (h1 j) + U (h1 j)))) w 8) := lp_0 (fun (n : Nat) (s : Int64 × Int32 × (Nat → Int32)) => x_M_add_e21_5 fu h1 n s.1 s.2.1 s.2.2) (fun i : Nat => (lN (ac h1 h1 i), nI i, ar (fun j => nI (ac h1 h1 j + (U (h1 j) + U (h1 j)))) w i)) 8 hs (n + 1)
  have h0 : x_M_add_e21 fu h1 w = x_M_add_e21_5 fu h1 (n + 1 + 8) (lN (ac h1 h1 0)) (nI 0) (ar (fun j => nI (ac h1 h1 j + (U (h1 j) + U (h1 j)))) w 0) := by
    rw [← hn]
    rfl
  refine ⟨ar (fun j => nI (ac h1 h1 j + (U (h1 j) + U (h1 j)))) w 8, ?_, fun j hj => ar_lt _ _ 8 j hj⟩
  rw [h0, h]
  clear h0 h hs
  generalize ar (fun j => nI (ac h1 h1 j + (U (h1 j) + U (h1 j)))) w 8 = R
  generalize lN (ac h1 h1 8) = C
  show xb_M_add_e21_5 _ h1 (x_M_add_e21_5 _ h1 n) C (nI 8) R = _
  unfold xb_M_add_e21_5
  rw [if_pos (show (8 : Int32) ≤ nI 8 from by decide), bnd_q]
set_option maxHeartbeats 200000 in
theorem v_M_add_e21 (fu : Nat) (hfu : 9 ≤ fu) (h1 : Nat → Int32) (w : Nat → Int32) : ∃ (c : Nat) (r : Nat → Int32), x_M_add_e21 fu h1 w = some (nI c, r) ∧ c ≤ 1 ∧ V r 8 + c * 2 ^ 256 = V h1 8 + V h1 8 := by
  obtain ⟨r, e, h⟩ := t_M_add_e21 fu hfu h1 w
  rw [lN_i] at e
  exact ⟨_, r, e, ac_le _ _ 8, ac_V _ _ r 8 h⟩

set_option maxHeartbeats 400000 in
theorem t_M_sub (fu : Nat) (hfu : 9 ≤ fu) (h1 : Nat → Int32) (h2 : Nat → Int32) (w : Nat → Int32) : ∃ r, x_M_sub fu h1 h2 w = some ((cb (bw h1 h2 8)).toInt32, r) ∧ ∀ j, j < 8 → r j = (fun j => nI (sd (U (h1 j)) (U (h2 j)) (bw h1 h2 j))) j := by
  obtain ⟨c, hc⟩ : ∃ c : Nat → Int64, ∀ i, c i = cb (bw h1 h2 i) := ⟨_, fun i => rfl⟩
  have hs : ∀ n i, i < 8 → (fun (n : Nat) (s : Int64 × Int32 × (Nat → Int32)) => x_M_sub_5 fu h1 h2 n s.1 s.2.1 s.2.2) (n + 1) ((fun i : Nat => (c i, nI i, ar (fun j => nI (sd (U (h1 j)) (U (h2 j)) (bw h1 h2 j))) w i)) i) = (fun (n : Nat) (s : Int64 × Int32 × (Nat → Int32)) => x_M_sub_5 fu h1 h2 n s.1 s.2.1 s.2.2) n ((fun i : Nat => (c i, nI i, ar (fun j => nI (sd (U (h1 j)) (U (h2 j)) (bw h1 h2 j))) w i)) (i + 1)) := by
    intro n i hi
    show xb_M_sub_5 fu h1 h2 (x_M_sub_5 fu h1 h2 n) (c i) (nI i) (ar (fun j => nI (sd (U (h1 j)) (U (h2 j)) (bw h1 h2 j))) w i) = _
    unfold xb_M_sub_5
    rw [if_neg (show ¬ (8 : Int32) ≤ nI i from nI_ge (b := 8) hi (by decide))]
    simp only [↓bnd_q]
    rw [gd_t (inb_nI hi (by decide)), gd_t (inb_nI hi (by decide)), gd_t (inb_nI hi (by decide)), nI_clamp (n := i) (by omega)]
    simp only [l_mask, nI_1]
    rw [hc i]
    obtain ⟨e1, e2⟩ := sb_step (U_lt (h1 i)) (U_lt (h2 i)) (bw_le h1 h2 i)
    rw [e1, e2]
    show _ = x_M_sub_5 fu h1 h2 n (c (i + 1)) (nI (i + 1)) (ar (fun j => nI (sd (U (h1 j)) (U (h2 j)) (bw h1 h2 j))) w (i + 1))
    rw [hc (i + 1), bw_s, ar_s]
  obtain ⟨n, hn⟩ : ∃ n, fu = (n + 1) + 8 := ⟨fu - 9, by omega⟩
  have h : x_M_sub_5 fu h1 h2 (n + 1 + 8) (c 0) (nI 0) (ar (fun j => nI (sd (U (h1 j)) (U (h2 j)) (bw h1 h2 j))) w 0) = x_M_sub_5 fu h1 h2 (n + 1) (c 8) (nI 8) (ar (fun j => nI (sd (U (h1 j)) (U (h2 j)) (bw h1 h2 j))) w 8) := lp_0 (fun (n : Nat) (s : Int64 × Int32 × (Nat → Int32)) => x_M_sub_5 fu h1 h2 n s.1 s.2.1 s.2.2) (fun i : Nat => (c i, nI i, ar (fun j => nI (sd (U (h1 j)) (U (h2 j)) (bw h1 h2 j))) w i)) 8 hs (n + 1)
  have h0 : x_M_sub fu h1 h2 w = x_M_sub_5 fu h1 h2 (n + 1 + 8) (c 0) (nI 0) (ar (fun j => nI (sd (U (h1 j)) (U (h2 j)) (bw h1 h2 j))) w 0) := by
    rw [← hn, hc 0]
    rfl
  refine ⟨ar (fun j => nI (sd (U (h1 j)) (U (h2 j)) (bw h1 h2 j))) w 8, ?_, fun j hj => ar_lt _ _ 8 j hj⟩
  rw [h0, h, ← hc 8]
  clear h0 h hs
  generalize ar (fun j => nI (sd (U (h1 j)) (U (h2 j)) (bw h1 h2 j))) w 8 = R
  generalize c 8 = C
  show xb_M_sub_5 _ h1 h2 (x_M_sub_5 _ h1 h2 n) C (nI 8) R = _
  unfold xb_M_sub_5
  rw [if_pos (show (8 : Int32) ≤ nI 8 from by decide), bnd_q]
set_option maxHeartbeats 200000 in
theorem v_M_sub (fu : Nat) (hfu : 9 ≤ fu) (h1 : Nat → Int32) (h2 : Nat → Int32) (w : Nat → Int32) : ∃ (c : Nat) (r : Nat → Int32), x_M_sub fu h1 h2 w = some ((cb c).toInt32, r) ∧ c ≤ 1 ∧ V r 8 + V h2 8 = V h1 8 + c * 2 ^ 256 := by
  obtain ⟨r, e, h⟩ := t_M_sub fu hfu h1 h2 w
  exact ⟨_, r, e, bw_le _ _ 8, bw_V _ _ r 8 h⟩

set_option maxHeartbeats 400000 in
theorem t_M_sub_e10s2x22 (fu : Nat) (hfu : 9 ≤ fu)  (w : Nat → Int32) : ∃ r, x_M_sub_e10s2x22 fu  w = some ((cb (bw w k22 8)).toInt32, r) ∧ ∀ j, j < 8 → r j = (fun j => nI (sd (U (w j)) (U (k22 j)) (bw w k22 j))) j := by
  obtain ⟨c, hc⟩ : ∃ c : Nat → Int64, ∀ i, c i = cb (bw w k22 i) := ⟨_, fun i => rfl⟩
  have hs : ∀ n i, i < 8 → (fun (n : Nat) (s : Int64 × Int32 × (Nat → Int32)) => x_M_sub_e10s2x22_5 fu  n s.1 s.2.1 s.2.2) (n + 1) ((fun i : Nat => (c i, nI i, ar (fun j => nI (sd (U (w j)) (U (k22 j)) (bw w k22 j))) w i)) i) = (fun (n : Nat) (s : Int64 × Int32 × (Nat → Int32)) => x_M_sub_e10s2x22_5 fu  n s.1 s.2.1 s.2.2) n ((fun i : Nat => (c i, nI i, ar (fun j => nI (sd (U (w j)) (U (k22 j)) (bw w k22 j))) w i)) (i + 1)) := by
    intro n i hi
    show xb_M_sub_e10s2x22_5 fu  (x_M_sub_e10s2x22_5 fu  n) (c i) (nI i) (ar (fun j => nI (sd (U (w j)) (U (k22 j)) (bw w k22 j))) w i) = _
    unfold xb_M_sub_e10s2x22_5
    rw [if_neg (show ¬ (8 : Int32) ≤ nI i from nI_ge (b := 8) hi (by decide))]
    simp only [↓bnd_q]
    rw [gd_t (inb_nI hi (by decide)), gd_t (inb_nI hi (by decide)), gd_t (inb_nI hi (by decide)), nI_clamp (n := i) (by omega), ar_ge _ _ i i (Nat.le_refl i), ← k22_e]
    simp only [l_mask, nI_1]
    rw [hc i]
    obtain ⟨e1, e2⟩ := sb_step (U_lt (w i)) (U_lt (k22 i)) (bw_le w k22 i)
    rw [e1, e2]
    show _ = x_M_sub_e10s2x22_5 fu  n (c (i + 1)) (nI (i + 1)) (ar (fun j => nI (sd (U (w j)) (U (k22 j)) (bw w k22 j))) w (i + 1))
    rw [hc (i + 1), bw_s, ar_s]
  obtain ⟨n, hn⟩ : ∃ n, fu = (n + 1) + 8 := ⟨fu - 9, by omega⟩
  have h : x_M_sub_e10s2x22_5 fu  (n + 1 + 8) (c 0) (nI 0) (ar (fun j => nI (sd (U (w j)) (U (k22 j)) (bw w k22 j))) w 0) = x_M_sub_e10s2x22_5 fu  (n + 1) (c 8) (nI 8) (ar (fun j => nI (sd (U (w j)) (U (k22 j)) (bw w k22 j))) w 8) := lp_0 (fun (n : Nat) (s : Int64 × Int32 × (Nat → Int32)) => x_M_sub_e10s2x22_5 fu  n s.1 s.2.1 s.2.2) (fun i : Nat => (c i, nI i, ar (fun j => nI (sd (U (w j)) (U (k22 j)) (bw w k22 j))) w i)) 8 hs (n + 1)
  have h0 : x_M_sub_e10s2x22 fu  w = x_M_sub_e10s2x22_5 fu  (n + 1 + 8) (c 0) (nI 0) (ar (fun j => nI (sd (U (w j)) (U (k22 j)) (bw w k22 j))) w 0) := by
    rw [← hn, hc 0]
    rfl
  refine ⟨ar (fun j => nI (sd (U (w j)) (U (k22 j)) (bw w k22 j))) w 8, ?_, fun j hj => ar_lt _ _ 8 j hj⟩
  rw [h0, h, ← hc 8]
  clear h0 h hs
  generalize ar (fun j => nI (sd (U (w j)) (U (k22 j)) (bw w k22 j))) w 8 = R
  generalize c 8 = C
  show xb_M_sub_e10s2x22_5 _  (x_M_sub_e10s2x22_5 _  n) C (nI 8) R = _
  unfold xb_M_sub_e10s2x22_5
  rw [if_pos (show (8 : Int32) ≤ nI 8 from by decide), bnd_q]
set_option maxHeartbeats 200000 in
theorem v_M_sub_e10s2x22 (fu : Nat) (hfu : 9 ≤ fu)  (w : Nat → Int32) : ∃ (c : Nat) (r : Nat → Int32), x_M_sub_e10s2x22 fu  w = some ((cb c).toInt32, r) ∧ c ≤ 1 ∧ V r 8 + V k22 8 = V w 8 + c * 2 ^ 256 := by
  obtain ⟨r, e, h⟩ := t_M_sub_e10s2x22 fu hfu  w
  exact ⟨_, r, e, bw_le _ _ 8, bw_V _ _ r 8 h⟩

set_option maxHeartbeats 400000 in
theorem t_M_sub_s1x22e20 (fu : Nat) (hfu : 9 ≤ fu)  (w : Nat → Int32) : ∃ r, x_M_sub_s1x22e20 fu  w = some ((cb (bw k22 w 8)).toInt32, r) ∧ ∀ j, j < 8 → r j = (fun j => nI (sd (U (k22 j)) (U (w j)) (bw k22 w j))) j := by
  obtain ⟨c, hc⟩ : ∃ c : Nat → Int64, ∀ i, c i = cb (bw k22 w i) := ⟨_, fun i => rfl⟩
  have hs : ∀ n i, i < 8 → (fun (n : Nat) (s : Int64 × Int32 × (Nat → Int32)) => x_M_sub_s1x22e20_5 fu  n s.1 s.2.1 s.2.2) (n + 1) ((fun i : Nat => (c i, nI i, ar (fun j => nI (sd (U (k22 j)) (U (w j)) (bw k22 w j))) w i)) i) = (fun (n : Nat) (s : Int64 × Int32 × (Nat → Int32)) => x_M_sub_s1x22e20_5 fu  n s.1 s.2.1 s.2.2) n ((fun i : Nat => (c i, nI i, ar (fun j => nI (sd (U (k22 j)) (U (w j)) (bw k22 w j))) w i)) (i + 1)) := by
    intro n i hi
    show xb_M_sub_s1x22e20_5 fu  (x_M_sub_s1x22e20_5 fu  n) (c i) (nI i) (ar (fun j => nI (sd (U (k22 j)) (U (w j)) (bw k22 w j))) w i) = _
    unfold xb_M_sub_s1x22e20_5
    rw [if_neg (show ¬ (8 : Int32) ≤ nI i from nI_ge (b := 8) hi (by decide))]
    simp only [↓bnd_q]
    rw [gd_t (inb_nI hi (by decide)), gd_t (inb_nI hi (by decide)), gd_t (inb_nI hi (by decide)), nI_clamp (n := i) (by omega), ar_ge _ _ i i (Nat.le_refl i), ← k22_e]
    simp only [l_mask, nI_1]
    rw [hc i]
    obtain ⟨e1, e2⟩ := sb_step (U_lt (k22 i)) (U_lt (w i)) (bw_le k22 w i)
    rw [e1, e2]
    show _ = x_M_sub_s1x22e20_5 fu  n (c (i + 1)) (nI (i + 1)) (ar (fun j => nI (sd (U (k22 j)) (U (w j)) (bw k22 w j))) w (i + 1))
    rw [hc (i + 1), bw_s, ar_s]
  obtain ⟨n, hn⟩ : ∃ n, fu = (n + 1) + 8 := ⟨fu - 9, by omega⟩
  have h : x_M_sub_s1x22e20_5 fu  (n + 1 + 8) (c 0) (nI 0) (ar (fun j => nI (sd (U (k22 j)) (U (w j)) (bw k22 w j))) w 0) = x_M_sub_s1x22e20_5 fu  (n + 1) (c 8) (nI 8) (ar (fun j => nI (sd (U (k22 j)) (U (w j)) (bw k22 w j))) w 8) := lp_0 (fun (n : Nat) (s : Int64 × Int32 × (Nat → Int32)) => x_M_sub_s1x22e20_5 fu  n s.1 s.2.1 s.2.2) (fun i : Nat => (c i, nI i, ar (fun j => nI (sd (U (k22 j)) (U (w j)) (bw k22 w j))) w i)) 8 hs (n + 1)
  have h0 : x_M_sub_s1x22e20 fu  w = x_M_sub_s1x22e20_5 fu  (n + 1 + 8) (c 0) (nI 0) (ar (fun j => nI (sd (U (k22 j)) (U (w j)) (bw k22 w j))) w 0) := by
    rw [← hn, hc 0]
    rfl
  refine ⟨ar (fun j => nI (sd (U (k22 j)) (U (w j)) (bw k22 w j))) w 8, ?_, fun j hj => ar_lt _ _ 8 j hj⟩
  rw [h0, h, ← hc 8]
  clear h0 h hs
  generalize ar (fun j => nI (sd (U (k22 j)) (U (w j)) (bw k22 w j))) w 8 = R
  generalize c 8 = C
  show xb_M_sub_s1x22e20_5 _  (x_M_sub_s1x22e20_5 _  n) C (nI 8) R = _
  unfold xb_M_sub_s1x22e20_5
  rw [if_pos (show (8 : Int32) ≤ nI 8 from by decide), bnd_q]
set_option maxHeartbeats 200000 in
theorem v_M_sub_s1x22e20 (fu : Nat) (hfu : 9 ≤ fu)  (w : Nat → Int32) : ∃ (c : Nat) (r : Nat → Int32), x_M_sub_s1x22e20 fu  w = some ((cb c).toInt32, r) ∧ c ≤ 1 ∧ V r 8 + V w 8 = V k22 8 + c * 2 ^ 256 := by
  obtain ⟨r, e, h⟩ := t_M_sub_s1x22e20 fu hfu  w
  exact ⟨_, r, e, bw_le _ _ 8, bw_V _ _ r 8 h⟩

set_option maxHeartbeats 400000 in
theorem t_M_sub_e10s2x23 (fu : Nat) (hfu : 9 ≤ fu)  (w : Nat → Int32) : ∃ r, x_M_sub_e10s2x23 fu  w = some ((cb (bw w k23 8)).toInt32, r) ∧ ∀ j, j < 8 → r j = (fun j => nI (sd (U (w j)) (U (k23 j)) (bw w k23 j))) j := by
  obtain ⟨c, hc⟩ : ∃ c : Nat → Int64, ∀ i, c i = cb (bw w k23 i) := ⟨_, fun i => rfl⟩
  have hs : ∀ n i, i < 8 → (fun (n : Nat) (s : Int64 × Int32 × (Nat → Int32)) => x_M_sub_e10s2x23_5 fu  n s.1 s.2.1 s.2.2) (n + 1) ((fun i : Nat => (c i, nI i, ar (fun j => nI (sd (U (w j)) (U (k23 j)) (bw w k23 j))) w i)) i) = (fun (n : Nat) (s : Int64 × Int32 × (Nat → Int32)) => x_M_sub_e10s2x23_5 fu  n s.1 s.2.1 s.2.2) n ((fun i : Nat => (c i, nI i, ar (fun j => nI (sd (U (w j)) (U (k23 j)) (bw w k23 j))) w i)) (i + 1)) := by
    intro n i hi
    show xb_M_sub_e10s2x23_5 fu  (x_M_sub_e10s2x23_5 fu  n) (c i) (nI i) (ar (fun j => nI (sd (U (w j)) (U (k23 j)) (bw w k23 j))) w i) = _
    unfold xb_M_sub_e10s2x23_5
    rw [if_neg (show ¬ (8 : Int32) ≤ nI i from nI_ge (b := 8) hi (by decide))]
    simp only [↓bnd_q]
    rw [gd_t (inb_nI hi (by decide)), gd_t (inb_nI hi (by decide)), gd_t (inb_nI hi (by decide)), nI_clamp (n := i) (by omega), ar_ge _ _ i i (Nat.le_refl i), ← k23_e]
    simp only [l_mask, nI_1]
    rw [hc i]
    obtain ⟨e1, e2⟩ := sb_step (U_lt (w i)) (U_lt (k23 i)) (bw_le w k23 i)
    rw [e1, e2]
    show _ = x_M_sub_e10s2x23_5 fu  n (c (i + 1)) (nI (i + 1)) (ar (fun j => nI (sd (U (w j)) (U (k23 j)) (bw w k23 j))) w (i + 1))
    rw [hc (i + 1), bw_s, ar_s]
  obtain ⟨n, hn⟩ : ∃ n, fu = (n + 1) + 8 := ⟨fu - 9, by omega⟩
  have h : x_M_sub_e10s2x23_5 fu  (n + 1 + 8) (c 0) (nI 0) (ar (fun j => nI (sd (U (w j)) (U (k23 j)) (bw w k23 j))) w 0) = x_M_sub_e10s2x23_5 fu  (n + 1) (c 8) (nI 8) (ar (fun j => nI (sd (U (w j)) (U (k23 j)) (bw w k23 j))) w 8) := lp_0 (fun (n : Nat) (s : Int64 × Int32 × (Nat → Int32)) => x_M_sub_e10s2x23_5 fu  n s.1 s.2.1 s.2.2) (fun i : Nat => (c i, nI i, ar (fun j => nI (sd (U (w j)) (U (k23 j)) (bw w k23 j))) w i)) 8 hs (n + 1)
  have h0 : x_M_sub_e10s2x23 fu  w = x_M_sub_e10s2x23_5 fu  (n + 1 + 8) (c 0) (nI 0) (ar (fun j => nI (sd (U (w j)) (U (k23 j)) (bw w k23 j))) w 0) := by
    rw [← hn, hc 0]
    rfl
  refine ⟨ar (fun j => nI (sd (U (w j)) (U (k23 j)) (bw w k23 j))) w 8, ?_, fun j hj => ar_lt _ _ 8 j hj⟩
  rw [h0, h, ← hc 8]
  clear h0 h hs
  generalize ar (fun j => nI (sd (U (w j)) (U (k23 j)) (bw w k23 j))) w 8 = R
  generalize c 8 = C
  show xb_M_sub_e10s2x23_5 _  (x_M_sub_e10s2x23_5 _  n) C (nI 8) R = _
  unfold xb_M_sub_e10s2x23_5
  rw [if_pos (show (8 : Int32) ≤ nI 8 from by decide), bnd_q]
set_option maxHeartbeats 200000 in
theorem v_M_sub_e10s2x23 (fu : Nat) (hfu : 9 ≤ fu)  (w : Nat → Int32) : ∃ (c : Nat) (r : Nat → Int32), x_M_sub_e10s2x23 fu  w = some ((cb c).toInt32, r) ∧ c ≤ 1 ∧ V r 8 + V k23 8 = V w 8 + c * 2 ^ 256 := by
  obtain ⟨r, e, h⟩ := t_M_sub_e10s2x23 fu hfu  w
  exact ⟨_, r, e, bw_le _ _ 8, bw_V _ _ r 8 h⟩

set_option maxHeartbeats 400000 in
theorem t_M_sub_e10 (fu : Nat) (hfu : 9 ≤ fu) (h2 : Nat → Int32) (w : Nat → Int32) : ∃ r, x_M_sub_e10 fu h2 w = some ((cb (bw w h2 8)).toInt32, r) ∧ ∀ j, j < 8 → r j = (fun j => nI (sd (U (w j)) (U (h2 j)) (bw w h2 j))) j := by
  obtain ⟨c, hc⟩ : ∃ c : Nat → Int64, ∀ i, c i = cb (bw w h2 i) := ⟨_, fun i => rfl⟩
  have hs : ∀ n i, i < 8 → (fun (n : Nat) (s : Int64 × Int32 × (Nat → Int32)) => x_M_sub_e10_5 fu h2 n s.1 s.2.1 s.2.2) (n + 1) ((fun i : Nat => (c i, nI i, ar (fun j => nI (sd (U (w j)) (U (h2 j)) (bw w h2 j))) w i)) i) = (fun (n : Nat) (s : Int64 × Int32 × (Nat → Int32)) => x_M_sub_e10_5 fu h2 n s.1 s.2.1 s.2.2) n ((fun i : Nat => (c i, nI i, ar (fun j => nI (sd (U (w j)) (U (h2 j)) (bw w h2 j))) w i)) (i + 1)) := by
    intro n i hi
    show xb_M_sub_e10_5 fu h2 (x_M_sub_e10_5 fu h2 n) (c i) (nI i) (ar (fun j => nI (sd (U (w j)) (U (h2 j)) (bw w h2 j))) w i) = _
    unfold xb_M_sub_e10_5
    rw [if_neg (show ¬ (8 : Int32) ≤ nI i from nI_ge (b := 8) hi (by decide))]
    simp only [↓bnd_q]
    rw [gd_t (inb_nI hi (by decide)), gd_t (inb_nI hi (by decide)), gd_t (inb_nI hi (by decide)), nI_clamp (n := i) (by omega), ar_ge _ _ i i (Nat.le_refl i)]
    simp only [l_mask, nI_1]
    rw [hc i]
    obtain ⟨e1, e2⟩ := sb_step (U_lt (w i)) (U_lt (h2 i)) (bw_le w h2 i)
    rw [e1, e2]
    show _ = x_M_sub_e10_5 fu h2 n (c (i + 1)) (nI (i + 1)) (ar (fun j => nI (sd (U (w j)) (U (h2 j)) (bw w h2 j))) w (i + 1))
    rw [hc (i + 1), bw_s, ar_s]
  obtain ⟨n, hn⟩ : ∃ n, fu = (n + 1) + 8 := ⟨fu - 9, by omega⟩
  have h : x_M_sub_e10_5 fu h2 (n + 1 + 8) (c 0) (nI 0) (ar (fun j => nI (sd (U (w j)) (U (h2 j)) (bw w h2 j))) w 0) = x_M_sub_e10_5 fu h2 (n + 1) (c 8) (nI 8) (ar (fun j => nI (sd (U (w j)) (U (h2 j)) (bw w h2 j))) w 8) := lp_0 (fun (n : Nat) (s : Int64 × Int32 × (Nat → Int32)) => x_M_sub_e10_5 fu h2 n s.1 s.2.1 s.2.2) (fun i : Nat => (c i, nI i, ar (fun j => nI (sd (U (w j)) (U (h2 j)) (bw w h2 j))) w i)) 8 hs (n + 1)
  have h0 : x_M_sub_e10 fu h2 w = x_M_sub_e10_5 fu h2 (n + 1 + 8) (c 0) (nI 0) (ar (fun j => nI (sd (U (w j)) (U (h2 j)) (bw w h2 j))) w 0) := by
    rw [← hn, hc 0]
    rfl
  refine ⟨ar (fun j => nI (sd (U (w j)) (U (h2 j)) (bw w h2 j))) w 8, ?_, fun j hj => ar_lt _ _ 8 j hj⟩
  rw [h0, h, ← hc 8]
  clear h0 h hs
  generalize ar (fun j => nI (sd (U (w j)) (U (h2 j)) (bw w h2 j))) w 8 = R
  generalize c 8 = C
  show xb_M_sub_e10_5 _ h2 (x_M_sub_e10_5 _ h2 n) C (nI 8) R = _
  unfold xb_M_sub_e10_5
  rw [if_pos (show (8 : Int32) ≤ nI 8 from by decide), bnd_q]
set_option maxHeartbeats 200000 in
theorem v_M_sub_e10 (fu : Nat) (hfu : 9 ≤ fu) (h2 : Nat → Int32) (w : Nat → Int32) : ∃ (c : Nat) (r : Nat → Int32), x_M_sub_e10 fu h2 w = some ((cb c).toInt32, r) ∧ c ≤ 1 ∧ V r 8 + V h2 8 = V w 8 + c * 2 ^ 256 := by
  obtain ⟨r, e, h⟩ := t_M_sub_e10 fu hfu h2 w
  exact ⟨_, r, e, bw_le _ _ 8, bw_V _ _ r 8 h⟩

set_option maxHeartbeats 400000 in
theorem t_M_sub_e20 (fu : Nat) (hfu : 9 ≤ fu) (h1 : Nat → Int32) (w : Nat → Int32) : ∃ r, x_M_sub_e20 fu h1 w = some ((cb (bw h1 w 8)).toInt32, r) ∧ ∀ j, j < 8 → r j = (fun j => nI (sd (U (h1 j)) (U (w j)) (bw h1 w j))) j := by
  obtain ⟨c, hc⟩ : ∃ c : Nat → Int64, ∀ i, c i = cb (bw h1 w i) := ⟨_, fun i => rfl⟩
  have hs : ∀ n i, i < 8 → (fun (n : Nat) (s : Int64 × Int32 × (Nat → Int32)) => x_M_sub_e20_5 fu h1 n s.1 s.2.1 s.2.2) (n + 1) ((fun i : Nat => (c i, nI i, ar (fun j => nI (sd (U (h1 j)) (U (w j)) (bw h1 w j))) w i)) i) = (fun (n : Nat) (s : Int64 × Int32 × (Nat → Int32)) => x_M_sub_e20_5 fu h1 n s.1 s.2.1 s.2.2) n ((fun i : Nat => (c i, nI i, ar (fun j => nI (sd (U (h1 j)) (U (w j)) (bw h1 w j))) w i)) (i + 1)) := by
    intro n i hi
    show xb_M_sub_e20_5 fu h1 (x_M_sub_e20_5 fu h1 n) (c i) (nI i) (ar (fun j => nI (sd (U (h1 j)) (U (w j)) (bw h1 w j))) w i) = _
    unfold xb_M_sub_e20_5
    rw [if_neg (show ¬ (8 : Int32) ≤ nI i from nI_ge (b := 8) hi (by decide))]
    simp only [↓bnd_q]
    rw [gd_t (inb_nI hi (by decide)), gd_t (inb_nI hi (by decide)), gd_t (inb_nI hi (by decide)), nI_clamp (n := i) (by omega), ar_ge _ _ i i (Nat.le_refl i)]
    simp only [l_mask, nI_1]
    rw [hc i]
    obtain ⟨e1, e2⟩ := sb_step (U_lt (h1 i)) (U_lt (w i)) (bw_le h1 w i)
    rw [e1, e2]
    show _ = x_M_sub_e20_5 fu h1 n (c (i + 1)) (nI (i + 1)) (ar (fun j => nI (sd (U (h1 j)) (U (w j)) (bw h1 w j))) w (i + 1))
    rw [hc (i + 1), bw_s, ar_s]
  obtain ⟨n, hn⟩ : ∃ n, fu = (n + 1) + 8 := ⟨fu - 9, by omega⟩
  have h : x_M_sub_e20_5 fu h1 (n + 1 + 8) (c 0) (nI 0) (ar (fun j => nI (sd (U (h1 j)) (U (w j)) (bw h1 w j))) w 0) = x_M_sub_e20_5 fu h1 (n + 1) (c 8) (nI 8) (ar (fun j => nI (sd (U (h1 j)) (U (w j)) (bw h1 w j))) w 8) := lp_0 (fun (n : Nat) (s : Int64 × Int32 × (Nat → Int32)) => x_M_sub_e20_5 fu h1 n s.1 s.2.1 s.2.2) (fun i : Nat => (c i, nI i, ar (fun j => nI (sd (U (h1 j)) (U (w j)) (bw h1 w j))) w i)) 8 hs (n + 1)
  have h0 : x_M_sub_e20 fu h1 w = x_M_sub_e20_5 fu h1 (n + 1 + 8) (c 0) (nI 0) (ar (fun j => nI (sd (U (h1 j)) (U (w j)) (bw h1 w j))) w 0) := by
    rw [← hn, hc 0]
    rfl
  refine ⟨ar (fun j => nI (sd (U (h1 j)) (U (w j)) (bw h1 w j))) w 8, ?_, fun j hj => ar_lt _ _ 8 j hj⟩
  rw [h0, h, ← hc 8]
  clear h0 h hs
  generalize ar (fun j => nI (sd (U (h1 j)) (U (w j)) (bw h1 w j))) w 8 = R
  generalize c 8 = C
  show xb_M_sub_e20_5 _ h1 (x_M_sub_e20_5 _ h1 n) C (nI 8) R = _
  unfold xb_M_sub_e20_5
  rw [if_pos (show (8 : Int32) ≤ nI 8 from by decide), bnd_q]
set_option maxHeartbeats 200000 in
theorem v_M_sub_e20 (fu : Nat) (hfu : 9 ≤ fu) (h1 : Nat → Int32) (w : Nat → Int32) : ∃ (c : Nat) (r : Nat → Int32), x_M_sub_e20 fu h1 w = some ((cb c).toInt32, r) ∧ c ≤ 1 ∧ V r 8 + V w 8 = V h1 8 + c * 2 ^ 256 := by
  obtain ⟨r, e, h⟩ := t_M_sub_e20 fu hfu h1 w
  exact ⟨_, r, e, bw_le _ _ 8, bw_V _ _ r 8 h⟩

set_option maxHeartbeats 400000 in
theorem t_M_sub_e21 (fu : Nat) (hfu : 9 ≤ fu) (h1 : Nat → Int32) (w : Nat → Int32) : ∃ r, x_M_sub_e21 fu h1 w = some ((cb (bw h1 h1 8)).toInt32, r) ∧ ∀ j, j < 8 → r j = (fun j => nI (sd (U (h1 j)) (U (h1 j)) (bw h1 h1 j))) j := by
  obtain ⟨c, hc⟩ : ∃ c : Nat → Int64, ∀ i, c i = cb (bw h1 h1 i) := ⟨_, fun i => rfl⟩
  have hs : ∀ n i, i < 8 → (fun (n : Nat) (s : Int64 × Int32 × (Nat → Int32)) => x_M_sub_e21_5 fu h1 n s.1 s.2.1 s.2.2) (n + 1) ((fun i : Nat => (c i, nI i, ar (fun j => nI (sd (U (h1 j)) (U (h1 j)) (bw h1 h1 j))) w i)) i) = (fun (n : Nat) (s : Int64 × Int32 × (Nat → Int32)) => x_M_sub_e21_5 fu h1 n s.1 s.2.1 s.2.2) n ((fun i : Nat => (c i, nI i, ar (fun j => nI (sd (U (h1 j)) (U (h1 j)) (bw h1 h1 j))) w i)) (i + 1)) := by
    intro n i hi
    show xb_M_sub_e21_5 fu h1 (x_M_sub_e21_5 fu h1 n) (c i) (nI i) (ar (fun j => nI (sd (U (h1 j)) (U (h1 j)) (bw h1 h1 j))) w i) = _
    unfold xb_M_sub_e21_5
    rw [if_neg (show ¬ (8 : Int32) ≤ nI i from nI_ge (b := 8) hi (by decide))]
    simp only [↓bnd_q]
    rw [gd_t (inb_nI hi (by decide)), gd_t (inb_nI hi (by decide)), gd_t (inb_nI hi (by decide)), nI_clamp (n := i) (by omega)]
    simp only [l_mask, nI_1]
    rw [hc i]
    obtain ⟨e1, e2⟩ := sb_step (U_lt (h1 i)) (U_lt (h1 i)) (bw_le h1 h1 i)
    rw [e1, e2]
    show _ = x_M_sub_e21_5 fu h1 n (c (i + 1)) (nI (i + 1)) (ar (fun j => nI (sd (U (h1 j)) (U (h1 j)) (bw h1 h1 j))) w (i + 1))
    rw [hc (i + 1), bw_s, ar_s]
  obtain ⟨n, hn⟩ : ∃ n, fu = (n + 1) + 8 := ⟨fu - 9, by omega⟩
  have h : x_M_sub_e21_5 fu h1 (n + 1 + 8) (c 0) (nI 0) (ar (fun j => nI (sd (U (h1 j)) (U (h1 j)) (bw h1 h1 j))) w 0) = x_M_sub_e21_5 fu h1 (n + 1) (c 8) (nI 8) (ar (fun j => nI (sd (U (h1 j)) (U (h1 j)) (bw h1 h1 j))) w 8) := lp_0 (fun (n : Nat) (s : Int64 × Int32 × (Nat → Int32)) => x_M_sub_e21_5 fu h1 n s.1 s.2.1 s.2.2) (fun i : Nat => (c i, nI i, ar (fun j => nI (sd (U (h1 j)) (U (h1 j)) (bw h1 h1 j))) w i)) 8 hs (n + 1)
  have h0 : x_M_sub_e21 fu h1 w = x_M_sub_e21_5 fu h1 (n + 1 + 8) (c 0) (nI 0) (ar (fun j => nI (sd (U (h1 j)) (U (h1 j)) (bw h1 h1 j))) w 0) := by
    rw [← hn, hc 0]
    rfl
  refine ⟨ar (fun j => nI (sd (U (h1 j)) (U (h1 j)) (bw h1 h1 j))) w 8, ?_, fun j hj => ar_lt _ _ 8 j hj⟩
  rw [h0, h, ← hc 8]
  clear h0 h hs
  generalize ar (fun j => nI (sd (U (h1 j)) (U (h1 j)) (bw h1 h1 j))) w 8 = R
  generalize c 8 = C
  show xb_M_sub_e21_5 _ h1 (x_M_sub_e21_5 _ h1 n) C (nI 8) R = _
  unfold xb_M_sub_e21_5
  rw [if_pos (show (8 : Int32) ≤ nI 8 from by decide), bnd_q]
set_option maxHeartbeats 200000 in
theorem v_M_sub_e21 (fu : Nat) (hfu : 9 ≤ fu) (h1 : Nat → Int32) (w : Nat → Int32) : ∃ (c : Nat) (r : Nat → Int32), x_M_sub_e21 fu h1 w = some ((cb c).toInt32, r) ∧ c ≤ 1 ∧ V r 8 + V h1 8 = V h1 8 + c * 2 ^ 256 := by
  obtain ⟨r, e, h⟩ := t_M_sub_e21 fu hfu h1 w
  exact ⟨_, r, e, bw_le _ _ 8, bw_V _ _ r 8 h⟩

set_option maxHeartbeats 400000 in
theorem t_M_sub_s1x25 (fu : Nat) (hfu : 9 ≤ fu) (h2 : Nat → Int32) (w : Nat → Int32) : ∃ r, x_M_sub_s1x25 fu h2 w = some ((cb (bw k25 h2 8)).toInt32, r) ∧ ∀ j, j < 8 → r j = (fun j => nI (sd (U (k25 j)) (U (h2 j)) (bw k25 h2 j))) j := by
  obtain ⟨c, hc⟩ : ∃ c : Nat → Int64, ∀ i, c i = cb (bw k25 h2 i) := ⟨_, fun i => rfl⟩
  have hs : ∀ n i, i < 8 → (fun (n : Nat) (s : Int64 × Int32 × (Nat → Int32)) => x_M_sub_s1x25_5 fu h2 n s.1 s.2.1 s.2.2) (n + 1) ((fun i : Nat => (c i, nI i, ar (fun j => nI (sd (U (k25 j)) (U (h2 j)) (bw k25 h2 j))) w i)) i) = (fun (n : Nat) (s : Int64 × Int32 × (Nat → Int32)) => x_M_sub_s1x25_5 fu h2 n s.1 s.2.1 s.2.2) n ((fun i : Nat => (c i, nI i, ar (fun j => nI (sd (U (k25 j)) (U (h2 j)) (bw k25 h2 j))) w i)) (i + 1)) := by
    intro n i hi
    show xb_M_sub_s1x25_5 fu h2 (x_M_sub_s1x25_5 fu h2 n) (c i) (nI i) (ar (fun j => nI (sd (U (k25 j)) (U (h2 j)) (bw k25 h2 j))) w i) = _
    unfold xb_M_sub_s1x25_5
    rw [if_neg (show ¬ (8 : Int32) ≤ nI i from nI_ge (b := 8) hi (by decide))]
    simp only [↓bnd_q]
    rw [gd_t (inb_nI hi (by decide)), gd_t (inb_nI hi (by decide)), gd_t (inb_nI hi (by decide)), nI_clamp (n := i) (by omega), ← k25_e]
    simp only [l_mask, nI_1]
    rw [hc i]
    obtain ⟨e1, e2⟩ := sb_step (U_lt (k25 i)) (U_lt (h2 i)) (bw_le k25 h2 i)
    rw [e1, e2]
    show _ = x_M_sub_s1x25_5 fu h2 n (c (i + 1)) (nI (i + 1)) (ar (fun j => nI (sd (U (k25 j)) (U (h2 j)) (bw k25 h2 j))) w (i + 1))
    rw [hc (i + 1), bw_s, ar_s]
  obtain ⟨n, hn⟩ : ∃ n, fu = (n + 1) + 8 := ⟨fu - 9, by omega⟩
  have h : x_M_sub_s1x25_5 fu h2 (n + 1 + 8) (c 0) (nI 0) (ar (fun j => nI (sd (U (k25 j)) (U (h2 j)) (bw k25 h2 j))) w 0) = x_M_sub_s1x25_5 fu h2 (n + 1) (c 8) (nI 8) (ar (fun j => nI (sd (U (k25 j)) (U (h2 j)) (bw k25 h2 j))) w 8) := lp_0 (fun (n : Nat) (s : Int64 × Int32 × (Nat → Int32)) => x_M_sub_s1x25_5 fu h2 n s.1 s.2.1 s.2.2) (fun i : Nat => (c i, nI i, ar (fun j => nI (sd (U (k25 j)) (U (h2 j)) (bw k25 h2 j))) w i)) 8 hs (n + 1)
  have h0 : x_M_sub_s1x25 fu h2 w = x_M_sub_s1x25_5 fu h2 (n + 1 + 8) (c 0) (nI 0) (ar (fun j => nI (sd (U (k25 j)) (U (h2 j)) (bw k25 h2 j))) w 0) := by
    rw [← hn, hc 0]
    rfl
  refine ⟨ar (fun j => nI (sd (U (k25 j)) (U (h2 j)) (bw k25 h2 j))) w 8, ?_, fun j hj => ar_lt _ _ 8 j hj⟩
  rw [h0, h, ← hc 8]
  clear h0 h hs
  generalize ar (fun j => nI (sd (U (k25 j)) (U (h2 j)) (bw k25 h2 j))) w 8 = R
  generalize c 8 = C
  show xb_M_sub_s1x25_5 _ h2 (x_M_sub_s1x25_5 _ h2 n) C (nI 8) R = _
  unfold xb_M_sub_s1x25_5
  rw [if_pos (show (8 : Int32) ≤ nI 8 from by decide), bnd_q]
set_option maxHeartbeats 200000 in
theorem v_M_sub_s1x25 (fu : Nat) (hfu : 9 ≤ fu) (h2 : Nat → Int32) (w : Nat → Int32) : ∃ (c : Nat) (r : Nat → Int32), x_M_sub_s1x25 fu h2 w = some ((cb c).toInt32, r) ∧ c ≤ 1 ∧ V r 8 + V h2 8 = V k25 8 + c * 2 ^ 256 := by
  obtain ⟨r, e, h⟩ := t_M_sub_s1x25 fu hfu h2 w
  exact ⟨_, r, e, bw_le _ _ 8, bw_V _ _ r 8 h⟩

set_option maxHeartbeats 400000 in
theorem t_M_sub_s1x24 (fu : Nat) (hfu : 9 ≤ fu) (h2 : Nat → Int32) (w : Nat → Int32) : ∃ r, x_M_sub_s1x24 fu h2 w = some ((cb (bw k24 h2 8)).toInt32, r) ∧ ∀ j, j < 8 → r j = (fun j => nI (sd (U (k24 j)) (U (h2 j)) (bw k24 h2 j))) j := by
  obtain ⟨c, hc⟩ : ∃ c : Nat → Int64, ∀ i, c i = cb (bw k24 h2 i) := ⟨_, fun i => rfl⟩
  have hs : ∀ n i, i < 8 → (fun (n : Nat) (s : Int64 × Int32 × (Nat → Int32)) => x_M_sub_s1x24_5 fu h2 n s.1 s.2.1 s.2.2) (n + 1) ((fun i : Nat => (c i, nI i, ar (fun j => nI (sd (U (k24 j)) (U (h2 j)) (bw k24 h2 j))) w i)) i) = (fun (n : Nat) (s : Int64 × Int32 × (Nat → Int32)) => x_M_sub_s1x24_5 fu h2 n s.1 s.2.1 s.2.2) n ((fun i : Nat => (c i, nI i, ar (fun j => nI (sd (U (k24 j)) (U (h2 j)) (bw k24 h2 j))) w i)) (i + 1)) := by
    intro n i hi
    show xb_M_sub_s1x24_5 fu h2 (x_M_sub_s1x24_5 fu h2 n) (c i) (nI i) (ar (fun j => nI (sd (U (k24 j)) (U (h2 j)) (bw k24 h2 j))) w i) = _
    unfold xb_M_sub_s1x24_5
    rw [if_neg (show ¬ (8 : Int32) ≤ nI i from nI_ge (b := 8) hi (by decide))]
    simp only [↓bnd_q]
    rw [gd_t (inb_nI hi (by decide)), gd_t (inb_nI hi (by decide)), gd_t (inb_nI hi (by decide)), nI_clamp (n := i) (by omega), ← k24_e]
    simp only [l_mask, nI_1]
    rw [hc i]
    obtain ⟨e1, e2⟩ := sb_step (U_lt (k24 i)) (U_lt (h2 i)) (bw_le k24 h2 i)
    rw [e1, e2]
    show _ = x_M_sub_s1x24_5 fu h2 n (c (i + 1)) (nI (i + 1)) (ar (fun j => nI (sd (U (k24 j)) (U (h2 j)) (bw k24 h2 j))) w (i + 1))
    rw [hc (i + 1), bw_s, ar_s]
  obtain ⟨n, hn⟩ : ∃ n, fu = (n + 1) + 8 := ⟨fu - 9, by omega⟩
  have h : x_M_sub_s1x24_5 fu h2 (n + 1 + 8) (c 0) (nI 0) (ar (fun j => nI (sd (U (k24 j)) (U (h2 j)) (bw k24 h2 j))) w 0) = x_M_sub_s1x24_5 fu h2 (n + 1) (c 8) (nI 8) (ar (fun j => nI (sd (U (k24 j)) (U (h2 j)) (bw k24 h2 j))) w 8) := lp_0 (fun (n : Nat) (s : Int64 × Int32 × (Nat → Int32)) => x_M_sub_s1x24_5 fu h2 n s.1 s.2.1 s.2.2) (fun i : Nat => (c i, nI i, ar (fun j => nI (sd (U (k24 j)) (U (h2 j)) (bw k24 h2 j))) w i)) 8 hs (n + 1)
  have h0 : x_M_sub_s1x24 fu h2 w = x_M_sub_s1x24_5 fu h2 (n + 1 + 8) (c 0) (nI 0) (ar (fun j => nI (sd (U (k24 j)) (U (h2 j)) (bw k24 h2 j))) w 0) := by
    rw [← hn, hc 0]
    rfl
  refine ⟨ar (fun j => nI (sd (U (k24 j)) (U (h2 j)) (bw k24 h2 j))) w 8, ?_, fun j hj => ar_lt _ _ 8 j hj⟩
  rw [h0, h, ← hc 8]
  clear h0 h hs
  generalize ar (fun j => nI (sd (U (k24 j)) (U (h2 j)) (bw k24 h2 j))) w 8 = R
  generalize c 8 = C
  show xb_M_sub_s1x24_5 _ h2 (x_M_sub_s1x24_5 _ h2 n) C (nI 8) R = _
  unfold xb_M_sub_s1x24_5
  rw [if_pos (show (8 : Int32) ≤ nI 8 from by decide), bnd_q]
set_option maxHeartbeats 200000 in
theorem v_M_sub_s1x24 (fu : Nat) (hfu : 9 ≤ fu) (h2 : Nat → Int32) (w : Nat → Int32) : ∃ (c : Nat) (r : Nat → Int32), x_M_sub_s1x24 fu h2 w = some ((cb c).toInt32, r) ∧ c ≤ 1 ∧ V r 8 + V h2 8 = V k24 8 + c * 2 ^ 256 := by
  obtain ⟨r, e, h⟩ := t_M_sub_s1x24 fu hfu h2 w
  exact ⟨_, r, e, bw_le _ _ 8, bw_V _ _ r 8 h⟩

set_option maxHeartbeats 400000 in
theorem t_M_sub_e10s2x24 (fu : Nat) (hfu : 9 ≤ fu)  (w : Nat → Int32) : ∃ r, x_M_sub_e10s2x24 fu  w = some ((cb (bw w k24 8)).toInt32, r) ∧ ∀ j, j < 8 → r j = (fun j => nI (sd (U (w j)) (U (k24 j)) (bw w k24 j))) j := by
  obtain ⟨c, hc⟩ : ∃ c : Nat → Int64, ∀ i, c i = cb (bw w k24 i) := ⟨_, fun i => rfl⟩
  have hs : ∀ n i, i < 8 → (fun (n : Nat) (s : Int64 × Int32 × (Nat → Int32)) => x_M_sub_e10s2x24_5 fu  n s.1 s.2.1 s.2.2) (n + 1) ((fun i : Nat => (c i, nI i, ar (fun j => nI (sd (U (w j)) (U (k24 j)) (bw w k24 j))) w i)) i) = (fun (n : Nat) (s : Int64 × Int32 × (Nat → Int32)) => x_M_sub_e10s2x24_5 fu  n s.1 s.2.1 s.2.2) n ((fun i : Nat => (c i, nI i, ar (fun j => nI (sd (U (w j)) (U (k24 j)) (bw w k24 j))) w i)) (i + 1)) := by
    intro n i hi
    show xb_M_sub_e10s2x24_5 fu  (x_M_sub_e10s2x24_5 fu  n) (c i) (nI i) (ar (fun j => nI (sd (U (w j)) (U (k24 j)) (bw w k24 j))) w i) = _
    unfold xb_M_sub_e10s2x24_5
    rw [if_neg (show ¬ (8 : Int32) ≤ nI i from nI_ge (b := 8) hi (by decide))]
    simp only [↓bnd_q]
    rw [gd_t (inb_nI hi (by decide)), gd_t (inb_nI hi (by decide)), gd_t (inb_nI hi (by decide)), nI_clamp (n := i) (by omega), ar_ge _ _ i i (Nat.le_refl i), ← k24_e]
    simp only [l_mask, nI_1]
    rw [hc i]
    obtain ⟨e1, e2⟩ := sb_step (U_lt (w i)) (U_lt (k24 i)) (bw_le w k24 i)
    rw [e1, e2]
    show _ = x_M_sub_e10s2x24_5 fu  n (c (i + 1)) (nI (i + 1)) (ar (fun j => nI (sd (U (w j)) (U (k24 j)) (bw w k24 j))) w (i + 1))
    rw [hc (i + 1), bw_s, ar_s]
  obtain ⟨n, hn⟩ : ∃ n, fu = (n + 1) + 8 := ⟨fu - 9, by omega⟩
  have h : x_M_sub_e10s2x24_5 fu  (n + 1 + 8) (c 0) (nI 0) (ar (fun j => nI (sd (U (w j)) (U (k24 j)) (bw w k24 j))) w 0) = x_M_sub_e10s2x24_5 fu  (n + 1) (c 8) (nI 8) (ar (fun j => nI (sd (U (w j)) (U (k24 j)) (bw w k24 j))) w 8) := lp_0 (fun (n : Nat) (s : Int64 × Int32 × (Nat → Int32)) => x_M_sub_e10s2x24_5 fu  n s.1 s.2.1 s.2.2) (fun i : Nat => (c i, nI i, ar (fun j => nI (sd (U (w j)) (U (k24 j)) (bw w k24 j))) w i)) 8 hs (n + 1)
  have h0 : x_M_sub_e10s2x24 fu  w = x_M_sub_e10s2x24_5 fu  (n + 1 + 8) (c 0) (nI 0) (ar (fun j => nI (sd (U (w j)) (U (k24 j)) (bw w k24 j))) w 0) := by
    rw [← hn, hc 0]
    rfl
  refine ⟨ar (fun j => nI (sd (U (w j)) (U (k24 j)) (bw w k24 j))) w 8, ?_, fun j hj => ar_lt _ _ 8 j hj⟩
  rw [h0, h, ← hc 8]
  clear h0 h hs
  generalize ar (fun j => nI (sd (U (w j)) (U (k24 j)) (bw w k24 j))) w 8 = R
  generalize c 8 = C
  show xb_M_sub_e10s2x24_5 _  (x_M_sub_e10s2x24_5 _  n) C (nI 8) R = _
  unfold xb_M_sub_e10s2x24_5
  rw [if_pos (show (8 : Int32) ≤ nI 8 from by decide), bnd_q]
set_option maxHeartbeats 200000 in
theorem v_M_sub_e10s2x24 (fu : Nat) (hfu : 9 ≤ fu)  (w : Nat → Int32) : ∃ (c : Nat) (r : Nat → Int32), x_M_sub_e10s2x24 fu  w = some ((cb c).toInt32, r) ∧ c ≤ 1 ∧ V r 8 + V k24 8 = V w 8 + c * 2 ^ 256 := by
  obtain ⟨r, e, h⟩ := t_M_sub_e10s2x24 fu hfu  w
  exact ⟨_, r, e, bw_le _ _ 8, bw_V _ _ r 8 h⟩

set_option maxHeartbeats 200000 in
theorem l_M_compare (fu : Nat) (h0 : Nat → Int32) (h1 : Nat → Int32) : ∀ k n, k ≤ 8 → k < n → x_M_compare_3 fu h0 h1 n (nI k + (-1)) = some (cmpN (V h0 k) (V h1 k))
  | 0, n + 1, _, _ => rfl
  | k + 1, n + 1, hk, hn => by
    rw [pk_m1]
    show xb_M_compare_3 fu h0 h1 (x_M_compare_3 fu h0 h1 n) (nI k) = _
    unfold xb_M_compare_3
    rw [if_neg (nI_pos (by omega))]
    simp only [↓bnd_q]
    rw [gd_t (inb_nI (by omega) (by decide)), gd_t (inb_nI (by omega) (by decide)), gd_t (inb_nI (by omega) (by decide)), gd_t (inb_nI (by omega) (by decide)), nI_clamp (n := k) (by omega)]
    by_cases h : h0 k = h1 k
    · rw [if_pos h, l_M_compare fu h0 h1 k n (by omega) (by omega), cmp_eq _ _ k h]
    · rw [if_neg h, ig_cu]
      show some _ = _
      rw [← cmp_top h0 h1 k (fun e => h (U_inj e))]
set_option maxHeartbeats 200000 in
theorem v_M_compare (fu : Nat) (hfu : 9 ≤ fu) (h0 : Nat → Int32) (h1 : Nat → Int32) : x_M_compare fu h0 h1 = some (cmpN (V h0 8) (V h1 8)) :=
  l_M_compare fu h0 h1 8 fu (Nat.le_refl 8) (by omega)

set_option maxHeartbeats 200000 in
theorem l_M_compare_s1x22 (fu : Nat) (h0 : Nat → Int32) : ∀ k n, k ≤ 8 → k < n → x_M_compare_s1x22_3 fu h0 n (nI k + (-1)) = some (cmpN (V h0 k) (V k22 k))
  | 0, n + 1, _, _ => rfl
  | k + 1, n + 1, hk, hn => by
    rw [pk_m1]
    show xb_M_compare_s1x22_3 fu h0 (x_M_compare_s1x22_3 fu h0 n) (nI k) = _
    unfold xb_M_compare_s1x22_3
    rw [if_neg (nI_pos (by omega))]
    simp only [↓bnd_q]
    rw [gd_t (inb_nI (by omega) (by decide)), gd_t (inb_nI (by omega) (by decide)), gd_t (inb_nI (by omega) (by decide)), gd_t (inb_nI (by omega) (by decide)), nI_clamp (n := k) (by omega), ← k22_e]
    by_cases h : h0 k = k22 k
    · rw [if_pos h, l_M_compare_s1x22 fu h0 k n (by omega) (by omega), cmp_eq _ _ k h]
    · rw [if_neg h, ig_cu]
      show some _ = _
      rw [← cmp_top h0 k22 k (fun e => h (U_inj e))]
set_option maxHeartbeats 200000 in
theorem v_M_compare_s1x22 (fu : Nat) (hfu : 9 ≤ fu) (h0 : Nat → Int32) : x_M_compare_s1x22 fu h0 = some (cmpN (V h0 8) (V k22 8)) :=
  l_M_compare_s1x22 fu h0 8 fu (Nat.le_refl 8) (by omega)

set_option maxHeartbeats 200000 in
theorem l_M_compare_s1x23 (fu : Nat) (h0 : Nat → Int32) : ∀ k n, k ≤ 8 → k < n → x_M_compare_s1x23_3 fu h0 n (nI k + (-1)) = some (cmpN (V h0 k) (V k23 k))
  | 0, n + 1, _, _ => rfl
  | k + 1, n + 1, hk, hn => by
    rw [pk_m1]
    show xb_M_compare_s1x23_3 fu h0 (x_M_compare_s1x23_3 fu h0 n) (nI k) = _
    unfold xb_M_compare_s1x23_3
    rw [if_neg (nI_pos (by omega))]
    simp only [↓bnd_q]
    rw [gd_t (inb_nI (by omega) (by decide)), gd_t (inb_nI (by omega) (by decide)), gd_t (inb_nI (by omega) (by decide)), gd_t (inb_nI (by omega) (by decide)), nI_clamp (n := k) (by omega), ← k23_e]
    by_cases h : h0 k = k23 k
    · rw [if_pos h, l_M_compare_s1x23 fu h0 k n (by omega) (by omega), cmp_eq _ _ k h]
    · rw [if_neg h, ig_cu]
      show some _ = _
      rw [← cmp_top h0 k23 k (fun e => h (U_inj e))]
set_option maxHeartbeats 200000 in
theorem v_M_compare_s1x23 (fu : Nat) (hfu : 9 ≤ fu) (h0 : Nat → Int32) : x_M_compare_s1x23 fu h0 = some (cmpN (V h0 8) (V k23 8)) :=
  l_M_compare_s1x23 fu h0 8 fu (Nat.le_refl 8) (by omega)

set_option maxHeartbeats 200000 in
theorem l_M_compare_s0x24 (fu : Nat) (h1 : Nat → Int32) : ∀ k n, k ≤ 8 → k < n → x_M_compare_s0x24_3 fu h1 n (nI k + (-1)) = some (cmpN (V k24 k) (V h1 k))
  | 0, n + 1, _, _ => rfl
  | k + 1, n + 1, hk, hn => by
    rw [pk_m1]
    show xb_M_compare_s0x24_3 fu h1 (x_M_compare_s0x24_3 fu h1 n) (nI k) = _
    unfold xb_M_compare_s0x24_3
    rw [if_neg (nI_pos (by omega))]
    simp only [↓bnd_q]
    rw [gd_t (inb_nI (by omega) (by decide)), gd_t (inb_nI (by omega) (by decide)), gd_t (inb_nI (by omega) (by decide)), gd_t (inb_nI (by omega) (by decide)), nI_clamp (n := k) (by omega), ← k24_e]
    by_cases h : k24 k = h1 k
    · rw [if_pos h, l_M_compare_s0x24 fu h1 k n (by omega) (by omega), cmp_eq _ _ k h]
    · rw [if_neg h, ig_cu]
      show some _ = _
      rw [← cmp_top k24 h1 k (fun e => h (U_inj e))]
set_option maxHeartbeats 200000 in
theorem v_M_compare_s0x24 (fu : Nat) (hfu : 9 ≤ fu) (h1 : Nat → Int32) : x_M_compare_s0x24 fu h1 = some (cmpN (V k24 8) (V h1 8)) :=
  l_M_compare_s0x24 fu h1 8 fu (Nat.le_refl 8) (by omega)

set_option maxHeartbeats 200000 in
theorem l_M_compare_s0x25 (fu : Nat) (h1 : Nat → Int32) : ∀ k n, k ≤ 8 → k < n → x_M_compare_s0x25_3 fu h1 n (nI k + (-1)) = some (cmpN (V k25 k) (V h1 k))
  | 0, n + 1, _, _ => rfl
  | k + 1, n + 1, hk, hn => by
    rw [pk_m1]
    show xb_M_compare_s0x25_3 fu h1 (x_M_compare_s0x25_3 fu h1 n) (nI k) = _
    unfold xb_M_compare_s0x25_3
    rw [if_neg (nI_pos (by omega))]
    simp only [↓bnd_q]
    rw [gd_t (inb_nI (by omega) (by decide)), gd_t (inb_nI (by omega) (by decide)), gd_t (inb_nI (by omega) (by decide)), gd_t (inb_nI (by omega) (by decide)), nI_clamp (n := k) (by omega), ← k25_e]
    by_cases h : k25 k = h1 k
    · rw [if_pos h, l_M_compare_s0x25 fu h1 k n (by omega) (by omega), cmp_eq _ _ k h]
    · rw [if_neg h, ig_cu]
      show some _ = _
      rw [← cmp_top k25 h1 k (fun e => h (U_inj e))]
set_option maxHeartbeats 200000 in
theorem v_M_compare_s0x25 (fu : Nat) (hfu : 9 ≤ fu) (h1 : Nat → Int32) : x_M_compare_s0x25 fu h1 = some (cmpN (V k25 8) (V h1 8)) :=
  l_M_compare_s0x25 fu h1 8 fu (Nat.le_refl 8) (by omega)

set_option maxHeartbeats 200000 in
theorem l_M_compare_s1x24 (fu : Nat) (h0 : Nat → Int32) : ∀ k n, k ≤ 8 → k < n → x_M_compare_s1x24_3 fu h0 n (nI k + (-1)) = some (cmpN (V h0 k) (V k24 k))
  | 0, n + 1, _, _ => rfl
  | k + 1, n + 1, hk, hn => by
    rw [pk_m1]
    show xb_M_compare_s1x24_3 fu h0 (x_M_compare_s1x24_3 fu h0 n) (nI k) = _
    unfold xb_M_compare_s1x24_3
    rw [if_neg (nI_pos (by omega))]
    simp only [↓bnd_q]
    rw [gd_t (inb_nI (by omega) (by decide)), gd_t (inb_nI (by omega) (by decide)), gd_t (inb_nI (by omega) (by decide)), gd_t (inb_nI (by omega) (by decide)), nI_clamp (n := k) (by omega), ← k24_e]
    by_cases h : h0 k = k24 k
    · rw [if_pos h, l_M_compare_s1x24 fu h0 k n (by omega) (by omega), cmp_eq _ _ k h]
    · rw [if_neg h, ig_cu]
      show some _ = _
      rw [← cmp_top h0 k24 k (fun e => h (U_inj e))]
set_option maxHeartbeats 200000 in
theorem v_M_compare_s1x24 (fu : Nat) (hfu : 9 ≤ fu) (h0 : Nat → Int32) : x_M_compare_s1x24 fu h0 = some (cmpN (V h0 8) (V k24 8)) :=
  l_M_compare_s1x24 fu h0 8 fu (Nat.le_refl 8) (by omega)

set_option maxHeartbeats 200000 in
theorem l_M_compare_s1x25 (fu : Nat) (h0 : Nat → Int32) : ∀ k n, k ≤ 8 → k < n → x_M_compare_s1x25_3 fu h0 n (nI k + (-1)) = some (cmpN (V h0 k) (V k25 k))
  | 0, n + 1, _, _ => rfl
  | k + 1, n + 1, hk, hn => by
    rw [pk_m1]
    show xb_M_compare_s1x25_3 fu h0 (x_M_compare_s1x25_3 fu h0 n) (nI k) = _
    unfold xb_M_compare_s1x25_3
    rw [if_neg (nI_pos (by omega))]
    simp only [↓bnd_q]
    rw [gd_t (inb_nI (by omega) (by decide)), gd_t (inb_nI (by omega) (by decide)), gd_t (inb_nI (by omega) (by decide)), gd_t (inb_nI (by omega) (by decide)), nI_clamp (n := k) (by omega), ← k25_e]
    by_cases h : h0 k = k25 k
    · rw [if_pos h, l_M_compare_s1x25 fu h0 k n (by omega) (by omega), cmp_eq _ _ k h]
    · rw [if_neg h, ig_cu]
      show some _ = _
      rw [← cmp_top h0 k25 k (fun e => h (U_inj e))]
set_option maxHeartbeats 200000 in
theorem v_M_compare_s1x25 (fu : Nat) (hfu : 9 ≤ fu) (h0 : Nat → Int32) : x_M_compare_s1x25 fu h0 = some (cmpN (V h0 8) (V k25 8)) :=
  l_M_compare_s1x25 fu h0 8 fu (Nat.le_refl 8) (by omega)

set_option maxHeartbeats 200000 in
theorem l_M_compare_e10 (fu : Nat) (h0 : Nat → Int32) : ∀ k n, k ≤ 8 → k < n → x_M_compare_e10_3 fu h0 n (nI k + (-1)) = some (cmpN (V h0 k) (V h0 k))
  | 0, n + 1, _, _ => rfl
  | k + 1, n + 1, hk, hn => by
    rw [pk_m1]
    show xb_M_compare_e10_3 fu h0 (x_M_compare_e10_3 fu h0 n) (nI k) = _
    unfold xb_M_compare_e10_3
    rw [if_neg (nI_pos (by omega))]
    simp only [↓bnd_q]
    rw [gd_t (inb_nI (by omega) (by decide)), gd_t (inb_nI (by omega) (by decide)), gd_t (inb_nI (by omega) (by decide)), gd_t (inb_nI (by omega) (by decide)), nI_clamp (n := k) (by omega)]
    by_cases h : h0 k = h0 k
    · rw [if_pos trivial, l_M_compare_e10 fu h0 k n (by omega) (by omega), cmp_eq _ _ k h]
    · exact absurd rfl h
set_option maxHeartbeats 200000 in
theorem v_M_compare_e10 (fu : Nat) (hfu : 9 ≤ fu) (h0 : Nat → Int32) : x_M_compare_e10 fu h0 = some (cmpN (V h0 8) (V h0 8)) :=
  l_M_compare_e10 fu h0 8 fu (Nat.le_refl 8) (by omega)
