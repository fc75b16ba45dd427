-- primes
def pr (n : Nat) : Prop := 1 < n ∧ ∀ d, d ∣ n → d = 1 ∨ d = n
set_option maxHeartbeats 60000 in
theorem pr_cp {p a : Nat} (h : pr p) (ha : ¬ p ∣ a) : Nat.Coprime p a := by
  rcases h.2 (Nat.gcd p a) (Nat.gcd_dvd_left p a) with e | e
  · exact e
  · exact absurd (by rw [← e]; exact Nat.gcd_dvd_right p a) ha
set_option maxHeartbeats 60000 in
theorem pr_mul {p a b : Nat} (h : pr p) (hd : p ∣ a * b) : p ∣ a ∨ p ∣ b := by
  by_cases ha : p ∣ a
  · exact Or.inl ha
  · exact Or.inr (Nat.Coprime.dvd_of_dvd_mul_left (pr_cp h ha) hd)
set_option maxHeartbeats 60000 in
theorem pr_least {n : Nat} (hn : 1 < n) (h : ¬ pr n) : ∃ p, pr p ∧ p ∣ n ∧ p * p ≤ n := by
  have h1 : ∃ d, d ∣ n ∧ 1 < d ∧ d < n := by
    apply Classical.byContradiction
    intro g
    apply h
    refine ⟨hn, fun d hd => ?_⟩
    apply Classical.byContradiction
    intro k
    apply g
    have h2 := Nat.le_of_dvd (by omega) hd
    have h3 : d ≠ 0 := fun e => by rw [e] at hd; have := Nat.eq_zero_of_zero_dvd hd; omega
    exact ⟨d, hd, by omega, by omega⟩
  obtain ⟨p, ⟨h2, h3, h4⟩, hl⟩ := pk_least (fun d => d ∣ n ∧ 1 < d ∧ d < n) h1
  obtain ⟨e, he⟩ := h2
  refine ⟨p, ⟨h3, fun d hd => ?_⟩, ⟨e, he⟩, ?_⟩
  · apply Classical.byContradiction
    intro k
    have g1 := Nat.le_of_dvd (by omega) hd
    have g2 : d ≠ 0 := fun e => by rw [e] at hd; have := Nat.eq_zero_of_zero_dvd hd; omega
    exact hl d (by omega) ⟨Nat.dvd_trans hd ⟨e, he⟩, by omega, by omega⟩
  · have he1 : 1 < e := by
      rcases Nat.lt_or_ge 1 e with g | g
      · exact g
      · have : p * e ≤ p * 1 := Nat.mul_le_mul_left p g
        omega
    have hpe : p ≤ e := by
      apply Classical.byContradiction
      intro k
      refine hl e (by omega) ⟨⟨p, by rw [he, Nat.mul_comm]⟩, he1, ?_⟩
      have : 2 * e ≤ p * e := Nat.mul_le_mul_right e h3
      omega
    rw [he]
    exact Nat.mul_le_mul_left p hpe
-- powers of a sum
def Ch : Nat → Nat → Nat
  | _, 0 => 1
  | 0, _ + 1 => 0
  | n + 1, k + 1 => Ch n k + Ch n (k + 1)
set_option maxHeartbeats 60000 in
theorem Ch_0 (n : Nat) : Ch n 0 = 1 := by cases n <;> rfl
set_option maxHeartbeats 60000 in
theorem Ch_z : ∀ n k, n < k → Ch n k = 0
  | 0, k + 1, _ => rfl
  | n + 1, k + 1, h => by
    show Ch n k + Ch n (k + 1) = 0
    rw [Ch_z n k (by omega), Ch_z n (k + 1) (by omega)]
set_option maxHeartbeats 60000 in
theorem Ch_m : ∀ n k, (k + 1) * Ch (n + 1) (k + 1) = (n + 1) * Ch n k
  | 0, 0 => rfl
  | 0, k + 1 => by
    show (k + 1 + 1) * (0 + 0) = (0 + 1) * 0
    omega
  | n + 1, 0 => by
    have h0 : 1 * Ch (n + 1) 1 = (n + 1) * Ch n 0 := Ch_m n 0
    have h : 1 * Ch (n + 1) 1 = (n + 1) * 1 := by
      rw [h0, Ch_0]
    show 1 * (Ch (n + 1) 0 + Ch (n + 1) 1) = (n + 1 + 1) * Ch (n + 1) 0
    rw [Ch_0]
    generalize Ch (n + 1) 1 = q at *
    omega
  | n + 1, k + 1 => by
    have h1 := Ch_m n k
    have h2 := Ch_m n (k + 1)
    show (k + 1 + 1) * (Ch (n + 1) (k + 1) + Ch (n + 1) (k + 1 + 1)) = (n + 1 + 1) * Ch (n + 1) (k + 1)
    have h3 : Ch (n + 1) (k + 1) = Ch n k + Ch n (k + 1) := rfl
    rw [Nat.mul_add, h2]
    have h4 : (k + 1 + 1) * Ch (n + 1) (k + 1) = (n + 1) * Ch n k + Ch (n + 1) (k + 1) := by
      rw [← h1, Nat.add_mul]; omega
    rw [h4, h3]
    generalize Ch n k = a
    generalize Ch n (k + 1) = b
    rw [Nat.add_mul (n + 1) 1, Nat.mul_add]
    omega
def Sm (n x : Nat) : Nat → Nat
  | 0 => 0
  | m + 1 => Sm n x m + Ch n m * x ^ m
set_option maxHeartbeats 60000 in
theorem Sm_s (n x : Nat) : ∀ m, Sm (n + 1) x (m + 1) = Sm n x (m + 1) + x * Sm n x m
  | 0 => by
    show 0 + Ch (n + 1) 0 * x ^ 0 = 0 + Ch n 0 * x ^ 0 + x * 0
    rw [Ch_0, Ch_0]
    omega
  | m + 1 => by
    have h := Sm_s n x m
    show Sm (n + 1) x (m + 1) + (Ch n m + Ch n (m + 1)) * x ^ (m + 1) = Sm n x (m + 1) + Ch n (m + 1) * x ^ (m + 1) + x * (Sm n x m + Ch n m * x ^ m)
    rw [h, Nat.add_mul, Nat.mul_add, Nat.pow_succ]
    have : x * (Ch n m * x ^ m) = Ch n m * (x ^ m * x) := by
      rw [Nat.mul_left_comm, Nat.mul_comm x]
    rw [this]
    omega
set_option maxHeartbeats 60000 in
theorem Sm_e (x : Nat) : ∀ n, (x + 1) ^ n = Sm n x (n + 1)
  | 0 => by
    show 1 = 0 + 1 * x ^ 0
    rw [Nat.pow_zero]
  | n + 1 => by
    have h := Sm_e x n
    have h2 : Sm n x (n + 1 + 1) = Sm n x (n + 1) := by
      show Sm n x (n + 1) + Ch n (n + 1) * x ^ (n + 1) = _
      rw [Ch_z n (n + 1) (by omega)]
      omega
    rw [Sm_s, h2, Nat.pow_succ, h, Nat.mul_add]
    rw [Nat.mul_comm x]
    omega
set_option maxHeartbeats 60000 in
theorem Sm_p {p : Nat} (h : pr p) (x : Nat) : ∀ m, 0 < m → m ≤ p → ∃ k, Sm p x m = 1 + p * k
  | 0, h0, _ => absurd h0 (Nat.lt_irrefl _)
  | 1, _, _ => ⟨0, by show 0 + Ch p 0 * x ^ 0 = _; rw [Ch_0, Nat.pow_zero, Nat.mul_zero]⟩
  | m + 2, _, hm => by
    obtain ⟨k, hk⟩ := Sm_p h x (m + 1) (by omega) (by omega)
    obtain ⟨n, rfl⟩ : ∃ n, p = n + 1 := ⟨p - 1, by omega⟩
    have hd : n + 1 ∣ (m + 1) * Ch (n + 1) (m + 1) := ⟨Ch n m, Ch_m n m⟩
    rcases pr_mul h hd with g | g
    · have := Nat.le_of_dvd (by omega) g
      omega
    · obtain ⟨c, hc⟩ := g
      refine ⟨k + c * x ^ (m + 1), ?_⟩
      show Sm (n + 1) x (m + 1) + Ch (n + 1) (m + 1) * x ^ (m + 1) = _
      rw [hk, hc, Nat.mul_add, Nat.mul_assoc]
      omega
set_option maxHeartbeats 60000 in
theorem fer {p : Nat} (h : pr p) : ∀ x, x ^ p % p = x % p
  | 0 => by
    rw [Nat.zero_pow (by have := h.1; omega)]
  | x + 1 => by
    have h1 := fer h x
    obtain ⟨k, hk⟩ := Sm_p h x p (by have := h.1; omega) (Nat.le_refl p)
    rw [Sm_e]
    show (Sm p x p + Ch p p * x ^ p) % p = _
    have hc : ∀ n, Ch n n = 1 := by
      intro n
      induction n with
      | zero => rfl
      | succ n ih =>
        show Ch n n + Ch n (n + 1) = 1
        rw [ih, Ch_z n (n + 1) (by omega)]
    rw [hk, hc, Nat.one_mul, Nat.add_assoc, Nat.add_comm 1, Nat.add_assoc, Nat.mul_add_mod, Nat.add_mod, h1, ← Nat.add_mod]
set_option maxHeartbeats 60000 in
theorem fer1 {p x : Nat} (h : pr p) (hx : ¬ p ∣ x) : x ^ (p - 1) % p = 1 := by
  have h1 := fer h x
  have hp := h.1
  have e : x ^ p = x ^ (p - 1) * x := by
    rw [← Nat.pow_succ]
    congr 1
    omega
  have hx0 : 0 < x := Nat.pos_of_ne_zero (fun q => hx (by rw [q]; exact Nat.dvd_zero p))
  have hy : 1 ≤ x ^ (p - 1) := Nat.pow_pos hx0
  rw [e] at h1
  have hle : x ≤ x ^ (p - 1) * x := Nat.le_mul_of_pos_left x hy
  have hd : p ∣ x ^ (p - 1) * x - x := Nat.dvd_of_mod_eq_zero (Nat.sub_mod_eq_zero_of_mod_eq h1)
  have e2 : x ^ (p - 1) * x - x = (x ^ (p - 1) - 1) * x := by rw [Nat.sub_mul, Nat.one_mul]
  rw [e2] at hd
  rcases pr_mul h hd with g | g
  · obtain ⟨k, hk⟩ := g
    rw [show x ^ (p - 1) = 1 + p * k by omega, Nat.add_mul_mod_self_left, Nat.mod_eq_of_lt hp]
  · exact absurd g hx
-- powers modulo n, for the kernel
def pm (n : Nat) : Nat → Nat → Nat → Nat
  | 0, _, _ => 1 % n
  | f + 1, a, e => if e = 0 then 1 % n else if e % 2 = 0 then pm n f (a * a % n) (e / 2) else a * pm n f (a * a % n) (e / 2) % n
set_option maxHeartbeats 60000 in
theorem pm_e (n : Nat) : ∀ f a e, e < 2 ^ f → pm n f a e = a ^ e % n
  | 0, a, e, h => by
    have : e = 0 := by rw [Nat.pow_zero] at h; omega
    rw [this]; rfl
  | f + 1, a, e, h => by
    unfold pm
    have h1 : e / 2 < 2 ^ f := by rw [Nat.pow_succ] at h; omega
    have e1 : ∀ k, (a * a % n) ^ k % n = a ^ (2 * k) % n := fun k => by
      rw [← Nat.pow_mod, Nat.pow_mul, Nat.pow_two]
    by_cases h0 : e = 0
    · rw [if_pos h0, h0]; rfl
    · rw [if_neg h0]
      by_cases h2 : e % 2 = 0
      · rw [if_pos h2, pm_e n f _ _ h1, e1, show 2 * (e / 2) = e by omega]
      · rw [if_neg h2, pm_e n f _ _ h1, e1, Nat.mul_mod, Nat.mod_mod, ← Nat.mul_mod, Nat.mul_comm, ← Nat.pow_succ, show (2 * (e / 2)).succ = e by omega]
set_option maxHeartbeats 60000 in
theorem mod_dvd {n p a b : Nat} (hp : p ∣ n) (h : a % n = b % n) : a % p = b % p := by
  rw [← Nat.mod_mod_of_dvd a hp, h, Nat.mod_mod_of_dvd b hp]
set_option maxHeartbeats 60000 in
theorem pow_mod1 {p b : Nat} (hp : 1 < p) (h : b % p = 1) : ∀ k, b ^ k % p = 1
  | 0 => by rw [Nat.pow_zero, Nat.mod_eq_of_lt hp]
  | k + 1 => by rw [Nat.pow_succ, Nat.mul_mod, pow_mod1 hp h k, h, Nat.mod_eq_of_lt (by omega)]
set_option maxHeartbeats 60000 in
theorem bz_1 {b r x y : Nat} (hb : 1 < b) (hr : 0 < r) (h : x * b = 1 + y * r) : y * (b - 1) * r = 1 + (y * r - x) * b := by
  have hy : 0 < y := Nat.pos_of_ne_zero (fun e => by
    rw [e, Nat.zero_mul] at h
    have := Nat.eq_one_of_mul_eq_one_left (show x * b = 1 by omega)
    omega)
  have h1 : 1 ≤ y * r := Nat.mul_pos hy hr
  have h2 : x ≤ y * r := by
    have : x * 2 ≤ x * b := Nat.mul_le_mul_left x hb
    omega
  have e1 : y * (b - 1) * r + y * r = y * r * b := by
    rw [Nat.mul_right_comm, ← Nat.mul_succ]
    congr 1
    omega
  have e2 : (y * r - x) * b + x * b = y * r * b := by
    rw [← Nat.add_mul, Nat.sub_add_cancel h2]
  generalize y * (b - 1) * r = A at *
  generalize (y * r - x) * b = B at *
  generalize y * r * b = C at *
  generalize y * r = D at *
  generalize x * b = E at *
  omega
set_option maxHeartbeats 60000 in
theorem bz : ∀ b a : Nat, 0 < a → 0 < b → Nat.Coprime a b → ∃ x y, x * a = 1 + y * b := by
  intro b
  induction b using Nat.strongRecOn with
  | _ b ih =>
    intro a ha hb hc
    by_cases h1 : b = 1
    · exact ⟨1, a - 1, by rw [h1]; omega⟩
    · have hr : 0 < a % b := by
        apply Nat.pos_of_ne_zero
        intro e
        have hd := Nat.dvd_of_mod_eq_zero e
        have : Nat.gcd a b = b := Nat.gcd_eq_right hd
        have h2 : Nat.gcd a b = 1 := hc
        omega
      have hc2 : Nat.Coprime b (a % b) := by
        show Nat.gcd b (a % b) = 1
        rw [Nat.gcd_comm, ← Nat.gcd_rec b a, Nat.gcd_comm]
        exact hc
      obtain ⟨x, y, hxy⟩ := ih (a % b) (Nat.mod_lt a hb) b hb hr hc2
      have h3 := bz_1 (by omega) hr hxy
      refine ⟨y * (b - 1), (y * (a % b) - x) + y * (b - 1) * (a / b), ?_⟩
      have h4 := Nat.div_add_mod a b
      calc y * (b - 1) * a = y * (b - 1) * (b * (a / b) + a % b) := by rw [h4]
        _ = y * (b - 1) * (a % b) + y * (b - 1) * (a / b) * b := by rw [Nat.mul_add, Nat.mul_comm b, ← Nat.mul_assoc, Nat.add_comm]
        _ = _ := by rw [h3, Nat.add_mul]; omega
set_option maxHeartbeats 60000 in
/-- a prime q of n - 1 and a witness: q is of p - 1 for each prime p of n -/
theorem po_q {n p q R a : Nat} (hp : pr p) (hd : p ∣ n) (hq : pr q) (hn : n - 1 = q * R) (h1 : a ^ (n - 1) % n = 1 % n) (h2 : Nat.gcd (a ^ R % n + n - 1) n = 1) : q ∣ p - 1 := by
  have p1 := hp.1
  have h3 : a ^ (n - 1) % p = 1 := by rw [mod_dvd hd h1, Nat.mod_eq_of_lt p1]
  have hn0 : 0 < n := Nat.pos_of_ne_zero (fun e => by
    rw [e, Nat.gcd_zero_right, Nat.mod_zero] at h2
    rw [e] at hn h3
    have hR : R = 0 := by
      rcases Nat.mul_eq_zero.mp hn.symm with g | g
      · have := hq.1; omega
      · exact g
    rw [hR] at h2
    simp at h2)
  have hb : ¬ a ^ R % p = 1 := by
    intro e
    have hk : p ∣ a ^ R % n + n - 1 := by
      have e1 : (a ^ R % n) % p = 1 := by rw [Nat.mod_mod_of_dvd _ hd]; exact e
      obtain ⟨c, hc⟩ := hd
      have e2 := Nat.div_add_mod (a ^ R % n) p
      rw [e1] at e2
      refine ⟨(a ^ R % n) / p + c, ?_⟩
      rw [Nat.mul_add, ← hc]
      omega
    have := Nat.dvd_gcd hk hd
    rw [h2] at this
    have := Nat.le_of_dvd (by decide) this
    omega
  apply Classical.byContradiction
  intro hnd
  have hcp := pr_cp hq hnd
  have hap : ¬ p ∣ a := by
    intro g
    have : a ^ (n - 1) % p = 0 := by
      obtain ⟨c, hc⟩ := g
      have hn1 : n - 1 ≠ 0 := by
        intro e0
        have hn1 : n = 1 := by omega
        rw [hn1] at hd
        have := Nat.le_of_dvd (by decide) hd
        omega
      obtain ⟨m, hm⟩ : ∃ m, n - 1 = m + 1 := ⟨n - 1 - 1, by omega⟩
      rw [hm, Nat.pow_succ, hc, ← Nat.mul_assoc, Nat.mul_comm _ c]
      rw [Nat.mul_comm ((p * c) ^ m) p, ← Nat.mul_assoc, Nat.mul_comm c p, Nat.mul_assoc, Nat.mul_mod_right]
    omega
  have f1 : (a ^ R) ^ (p - 1) % p = 1 := fer1 hp (fun g => hap (by
    have : ∀ k, p ∣ a ^ k → p ∣ a := by
      intro k
      induction k with
      | zero => intro q; rw [Nat.pow_zero] at q; have := Nat.le_of_dvd (by decide) q; omega
      | succ k ih =>
        intro q
        rw [Nat.pow_succ] at q
        rcases pr_mul hp q with g | g
        · exact ih g
        · exact g
    exact this R g))
  have f2 : (a ^ R) ^ q % p = 1 := by rw [← Nat.pow_mul, Nat.mul_comm R q, ← hn]; exact h3
  -- a power of both
  obtain ⟨x, y, hxy⟩ : ∃ x y, x * q = 1 + y * (p - 1) := by
    exact bz (p - 1) q (by have := hq.1; omega) (by omega) hcp
  apply hb
  have g1 : (a ^ R) ^ (x * q) % p = 1 := by
    rw [Nat.mul_comm, Nat.pow_mul]
    exact pow_mod1 p1 f2 x
  rw [hxy, Nat.pow_add, Nat.pow_one, Nat.mul_mod, Nat.mul_comm y, Nat.pow_mul, pow_mod1 p1 f1 y, Nat.mul_one, Nat.mod_mod] at g1
  exact g1
/-- what a prime q of n - 1 must show -/
def pW (n q a : Nat) : Prop := q = 1 ∨ (pr q ∧ ∃ R, n - 1 = q * R ∧ a ^ (n - 1) % n = 1 % n ∧ Nat.gcd (a ^ R % n + n - 1) n = 1)
set_option maxHeartbeats 60000 in
theorem po_w {n p q a : Nat} (hp : pr p) (hd : p ∣ n) (h : pW n q a) : q ∣ p - 1 := by
  rcases h with h | ⟨h, R, h1, h2, h3⟩
  · rw [h]; exact Nat.one_dvd _
  · exact po_q hp hd h h1 h2 h3
set_option maxHeartbeats 60000 in
theorem po {n a q1 q2 q3 : Nat} (hn : 1 < n) (h1 : pW n q1 a) (h2 : pW n q2 a) (h3 : pW n q3 a) (c1 : Nat.gcd q1 q2 = 1) (c2 : Nat.gcd (q1 * q2) q3 = 1) (hb : n < q1 * q2 * q3 * (q1 * q2 * q3)) : pr n := by
  apply Classical.byContradiction
  intro h
  obtain ⟨p, hp, hd, hl⟩ := pr_least hn h
  have g1 := po_w hp hd h1
  have g2 := po_w hp hd h2
  have g3 := po_w hp hd h3
  have g4 := Nat.Coprime.mul_dvd_of_dvd_of_dvd c2 (Nat.Coprime.mul_dvd_of_dvd_of_dvd c1 g1 g2) g3
  have hp1 := hp.1
  have g5 := Nat.le_of_dvd (by omega) g4
  generalize q1 * q2 * q3 = F at *
  have g6 : F * F ≤ p * p := Nat.mul_le_mul (by omega) (by omega)
  omega
/-- small primes, by all that could divide them -/
def td (n : Nat) : Nat → Bool
  | 0 => true
  | k + 1 => td n k && (decide (k < 2) || decide (n % k ≠ 0))
set_option maxHeartbeats 60000 in
theorem td_e (n : Nat) : ∀ k, td n k = true → ∀ d, 2 ≤ d → d < k → ¬ d ∣ n
  | 0, _, d, _, h => absurd h (Nat.not_lt_zero _)
  | k + 1, h, d, h2, hd => by
    unfold td at h
    simp only [Bool.and_eq_true, Bool.or_eq_true, decide_eq_true_eq] at h
    by_cases e : d = k
    · subst e
      intro g
      rcases h.2 with q | q
      · omega
      · exact q (Nat.mod_eq_zero_of_dvd g)
    · exact td_e n k h.1 d h2 (by omega)
set_option maxHeartbeats 60000 in
theorem pr_td {n k : Nat} (hn : 1 < n) (h : td n k = true) (hk : n < k * k) : pr n := by
  apply Classical.byContradiction
  intro g
  obtain ⟨p, hp, hd, hl⟩ := pr_least hn g
  refine td_e n k h p hp.1 ?_ hd
  apply Classical.byContradiction
  intro q
  have : k * k ≤ p * p := Nat.mul_le_mul (by omega) (by omega)
  omega
set_option maxHeartbeats 60000 in
theorem pW_c {n q a R f g : Nat} (hq : pr q) (h1 : n - 1 = q * R) (hf : n - 1 < 2 ^ f) (h2 : pm n f a (n - 1) = 1 % n) (hR : R < 2 ^ f) (h3 : Nat.gcd (pm n f a R + n - 1) n = g) (h4 : g = 1) : pW n q a := by
  refine Or.inr ⟨hq, R, h1, ?_, ?_⟩
  · rw [← pm_e n f a (n - 1) hf]; exact h2
  · rw [← pm_e n f a R hR, h3, h4]
set_option maxHeartbeats 60000 in
set_option maxRecDepth 100000 in
theorem pr_107590001 : pr 107590001 := pr_td (k := 10373) (by decide) (by decide +kernel) (by decide)
set_option maxHeartbeats 60000 in
set_option maxRecDepth 100000 in
theorem pr_7240687 : pr 7240687 := pr_td (k := 2691) (by decide) (by decide +kernel) (by decide)
set_option maxHeartbeats 60000 in
set_option maxRecDepth 100000 in
theorem pr_96557 : pr 96557 := pr_td (k := 311) (by decide) (by decide +kernel) (by decide)
set_option maxHeartbeats 60000 in
set_option maxRecDepth 100000 in
theorem pr_545358713 : pr 545358713 := pr_td (k := 23353) (by decide) (by decide +kernel) (by decide)
set_option maxHeartbeats 60000 in
set_option maxRecDepth 100000 in
theorem pr_305873 : pr 305873 := pr_td (k := 554) (by decide) (by decide +kernel) (by decide)
set_option maxHeartbeats 60000 in
set_option maxRecDepth 100000 in
theorem pr_293 : pr 293 := pr_td (k := 18) (by decide) (by decide +kernel) (by decide)
set_option maxHeartbeats 60000 in
set_option maxRecDepth 100000 in
theorem pr_4681609 : pr 4681609 := pr_td (k := 2164) (by decide) (by decide +kernel) (by decide)
set_option maxHeartbeats 60000 in
set_option maxRecDepth 100000 in
theorem pr_85831 : pr 85831 := pr_td (k := 293) (by decide) (by decide +kernel) (by decide)
set_option maxHeartbeats 60000 in
set_option maxRecDepth 100000 in
theorem pr_c1 : pr 255515944373312847190720520512484175977 := po (a := 2) (q1 := 107590001) (q2 := 7240687) (q3 := 96557) (by decide +kernel) (pW_c (R := 2374904191824599455024826335976) (f := 128) (g := 1) pr_107590001 (by decide +kernel) (by decide +kernel) (by decide +kernel) (by decide +kernel) (by decide +kernel) rfl) (pW_c (R := 35288908963101546467996824129048) (f := 128) (g := 1) pr_7240687 (by decide +kernel) (by decide +kernel) (by decide +kernel) (by decide +kernel) (by decide +kernel) rfl) (pW_c (R := 2646270538369179315748423423599368) (f := 128) (g := 1) pr_96557 (by decide +kernel) (by decide +kernel) (by decide +kernel) (by decide +kernel) (by decide +kernel) rfl) (by decide +kernel) (by decide +kernel) (by decide +kernel)
set_option maxHeartbeats 60000 in
set_option maxRecDepth 100000 in
theorem pr_q : pr 205115282021455665897114700593932402728804164701536103180137503955397371 := po (a := 2) (q1 := 255515944373312847190720520512484175977) (q2 := 1) (q3 := 1) (by decide +kernel) (pW_c (R := 802749442992798076634733441528810) (f := 237) (g := 1) pr_c1 (by decide +kernel) (by decide +kernel) (by decide +kernel) (by decide +kernel) (by decide +kernel) rfl) (Or.inl rfl) (Or.inl rfl) (by decide +kernel) (by decide +kernel) (by decide +kernel)
set_option maxHeartbeats 60000 in
set_option maxRecDepth 100000 in
theorem pr_P : pr 115792089237316195423570985008687907853269984665640564039457584007908834671663 := po (a := 2) (q1 := 205115282021455665897114700593932402728804164701536103180137503955397371) (q2 := 1) (q3 := 1) (by decide +kernel) (pW_c (R := 564522) (f := 256) (g := 1) pr_q (by decide +kernel) (by decide +kernel) (by decide +kernel) (by decide +kernel) (by decide +kernel) rfl) (Or.inl rfl) (Or.inl rfl) (by decide +kernel) (by decide +kernel) (by decide +kernel)
set_option maxHeartbeats 60000 in
set_option maxRecDepth 100000 in
theorem pr_r2 : pr 29047611873442575647497758179 := po (a := 2) (q1 := 545358713) (q2 := 305873) (q3 := 293) (by decide +kernel) (pW_c (R := 53263313083699784306) (f := 95) (g := 1) pr_545358713 (by decide +kernel) (by decide +kernel) (by decide +kernel) (by decide +kernel) (by decide +kernel) rfl) (pW_c (R := 94966250285061367454786) (f := 95) (g := 1) pr_305873 (by decide +kernel) (by decide +kernel) (by decide +kernel) (by decide +kernel) (by decide +kernel) rfl) (pW_c (R := 99138607076595821322517946) (f := 95) (g := 1) pr_293 (by decide +kernel) (by decide +kernel) (by decide +kernel) (by decide +kernel) (by decide +kernel) rfl) (by decide +kernel) (by decide +kernel) (by decide +kernel)
set_option maxHeartbeats 60000 in
set_option maxRecDepth 100000 in
theorem pr_r : pr 341948486974166000522343609283189 := po (a := 2) (q1 := 29047611873442575647497758179) (q2 := 1) (q3 := 1) (by decide +kernel) (pW_c (R := 11772) (f := 109) (g := 1) pr_r2 (by decide +kernel) (by decide +kernel) (by decide +kernel) (by decide +kernel) (by decide +kernel) rfl) (Or.inl rfl) (Or.inl rfl) (by decide +kernel) (by decide +kernel) (by decide +kernel)
set_option maxHeartbeats 60000 in
set_option maxRecDepth 100000 in
theorem pr_t : pr 107361793816595537 := po (a := 2) (q1 := 4681609) (q2 := 85831) (q3 := 1) (by decide +kernel) (pW_c (R := 22932669904) (f := 57) (g := 1) pr_4681609 (by decide +kernel) (by decide +kernel) (by decide +kernel) (by decide +kernel) (by decide +kernel) rfl) (pW_c (R := 1250851019056) (f := 57) (g := 1) pr_85831 (by decide +kernel) (by decide +kernel) (by decide +kernel) (by decide +kernel) (by decide +kernel) rfl) (Or.inl rfl) (by decide +kernel) (by decide +kernel) (by decide +kernel)
set_option maxHeartbeats 60000 in
set_option maxRecDepth 100000 in
theorem pr_N : pr 115792089237316195423570985008687907852837564279074904382605163141518161494337 := po (a := 2) (q1 := 341948486974166000522343609283189) (q2 := 107361793816595537) (q3 := 1) (by decide +kernel) (pW_c (R := 338624364920977752681389262317185522840540224) (f := 256) (g := 1) pr_r (by decide +kernel) (by decide +kernel) (by decide +kernel) (by decide +kernel) (by decide +kernel) rfl) (pW_c (R := 1078522304080742162682399010554089082520748534743704783428928) (f := 256) (g := 1) pr_t (by decide +kernel) (by decide +kernel) (by decide +kernel) (by decide +kernel) (by decide +kernel) rfl) (Or.inl rfl) (by decide +kernel) (by decide +kernel) (by decide +kernel)
set_option maxHeartbeats 60000 in
theorem pP_pr : pr pP := pr_P
set_option maxHeartbeats 60000 in
theorem nN_pr : pr nN := pr_N
set_option maxHeartbeats 60000 in
theorem pr_c {m a : Nat} (h : pr m) (h0 : 1 ≤ a) (ha : a < m) : cp a m := fun d h1 h2 => by
  rcases h.2 d h2 with e | e
  · exact e
  · rw [e] at h1
    have := Nat.le_of_dvd (by omega) h1
    omega
