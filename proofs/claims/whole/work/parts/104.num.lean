/-- a sum of words, each weighted by its place -/
def Ws (s : Nat → Nat) : Nat → Nat
  | 0 => 0
  | k + 1 => Ws s k + s k * 2 ^ (32 * k)
set_option maxHeartbeats 60000 in
theorem Ws_s (s : Nat → Nat) (k : Nat) : Ws s (k + 1) = Ws s k + s k * 2 ^ (32 * k) := rfl
def cI (s : Nat → Nat) (v w : Nat → Int32) (j c : Nat) (u : Nat → Int32) : Prop := c < 2 ^ 30 ∧ V u j + c * 2 ^ (32 * j) = Ws s j ∧ (∀ m, j ≤ m → u m = w m) ∧ v = v
set_option maxHeartbeats 60000 in
theorem cI_1 {S v c p s X : Nat} (hS : c + s = S) (h : v + c * X = p) : v + S % 2 ^ 32 * X + S / 2 ^ 32 * (2 ^ 32 * X) = p + s * X := by
  have h4 : S % 2 ^ 32 * X + S / 2 ^ 32 * (2 ^ 32 * X) = S * X := by
    rw [← Nat.mul_assoc, ← Nat.add_mul, show S % 2 ^ 32 + S / 2 ^ 32 * 2 ^ 32 = S by omega]
  have h5 : S * X = c * X + s * X := by rw [← hS, Nat.add_mul]
  rw [Nat.add_assoc, h4, h5, ← h, Nat.add_assoc]
set_option maxHeartbeats 60000 in
theorem cI_s {s : Nat → Nat} {v w : Nat → Int32} {j c : Nat} {u : Nat → Int32} (hs : s j < 2 ^ 60) (h : cI s v w j c u) : c + s j < 2 ^ 64 ∧ cI s v w (j + 1) ((c + s j) / 2 ^ 32) (upd u j (nI (c + s j))) := by
  obtain ⟨h1, h2, h3, -⟩ := h
  refine ⟨?_, ?_, ?_, fun m hm => ?_, rfl⟩
  · generalize s j = x at *
    omega
  · generalize s j = x at *
    omega
  · rw [V_s, V_u _ _ _ _ (Nat.le_refl _), pk_us, U_mod, Ws_s, p32_s]
    exact cI_1 rfl h2
  · rw [pk_un (by omega)]
    exact h3 m (by omega)
-- the fold of a product
def fs (p : Nat → Int32) (k : Nat) : Nat := U (p k) + U (p (8 + k)) * 977 + (if k = 0 then 0 else U (p (7 + k)))
set_option maxHeartbeats 60000 in
theorem fs_lt (p : Nat → Int32) (k : Nat) : fs p k < 2 ^ 60 := by
  unfold fs
  have h1 := U_lt (p k)
  have h2 := U_lt (p (8 + k))
  have h3 := U_lt (p (7 + k))
  generalize U (p k) = a at *
  generalize U (p (8 + k)) = b at *
  generalize U (p (7 + k)) = c at *
  split <;> omega
set_option maxHeartbeats 60000 in
theorem fs_1 {w v h a b c X Y : Nat} (hY : Y = 2 ^ 32 * X) (h1 : w + b * X = v + (977 + 2 ^ 32) * h) : w + (a + c * 977 + b) * X + c * Y = v + a * X + (977 + 2 ^ 32) * (h + c * X) := by
  subst hY
  rw [Nat.add_mul, Nat.add_mul, Nat.mul_add (977 + 2 ^ 32), Nat.mul_left_comm c, Nat.mul_assoc c 977, Nat.mul_left_comm c 977]
  generalize b * X = e1 at *
  generalize a * X = e2 at *
  generalize c * X = e3 at *
  omega
set_option maxHeartbeats 60000 in
theorem fs_W (p : Nat → Int32) : ∀ k, Ws (fs p) (k + 1) + U (p (8 + k)) * 2 ^ (32 * (k + 1)) = V p (k + 1) + (977 + 2 ^ 32) * V (fun j => p (8 + j)) (k + 1)
  | 0 => by
    have e1 : fs p 0 = U (p 0) + U (p 8) * 977 := rfl
    rw [Ws_s, V_s, V_s, e1]
    show 0 + (U (p 0) + U (p 8) * 977) * 2 ^ (32 * 0) + U (p 8) * 2 ^ (32 * (0 + 1)) = 0 + U (p 0) * 2 ^ (32 * 0) + (977 + 2 ^ 32) * (0 + U (p 8) * 2 ^ (32 * 0))
    generalize U (p 0) = a
    generalize U (p 8) = b
    omega
  | k + 1 => by
    have h1 := fs_W p k
    have e1 : fs p (k + 1) = U (p (k + 1)) + U (p (8 + (k + 1))) * 977 + U (p (8 + k)) := by
      unfold fs
      rw [if_neg (by omega), show 7 + (k + 1) = 8 + k by omega]
    rw [Ws_s, V_s p, V_s (fun j => p (8 + j)), e1]
    exact fs_1 (p32_s (k + 1)) h1
-- the fold of what went over
def os (r : Nat → Int32) (o k : Nat) : Nat := U (r k) + (if k = 0 then o * 977 else if k = 1 then o else 0)
set_option maxHeartbeats 60000 in
theorem os_lt (r : Nat → Int32) {o : Nat} (ho : o < 2 ^ 34) (k : Nat) : os r o k < 2 ^ 60 := by
  unfold os
  have h1 := U_lt (r k)
  generalize U (r k) = a at *
  split
  · omega
  · split <;> omega
set_option maxHeartbeats 60000 in
theorem os_W (r : Nat → Int32) (o : Nat) : ∀ k, Ws (os r o) (k + 2) = V r (k + 2) + o * (977 + 2 ^ 32)
  | 0 => by
    have e0 : os r o 0 = U (r 0) + o * 977 := rfl
    have e1 : os r o 1 = U (r 1) + o := rfl
    show 0 + os r o 0 * 2 ^ (32 * 0) + os r o 1 * 2 ^ (32 * 1) = 0 + U (r 0) * 2 ^ (32 * 0) + U (r 1) * 2 ^ (32 * 1) + o * (977 + 2 ^ 32)
    rw [e0, e1]
    generalize U (r 0) = a
    generalize U (r 1) = b
    omega
  | k + 1 => by
    have h1 := os_W r o k
    have e1 : os r o (k + 2) = U (r (k + 2)) := by
      unfold os
      rw [if_neg (by omega), if_neg (by omega)]
      omega
    rw [show k + 1 + 2 = k + 2 + 1 by omega, Ws_s, V_s, h1, e1]
    generalize U (r (k + 2)) * 2 ^ (32 * (k + 2)) = a
    omega
set_option maxHeartbeats 60000 in
theorem lc_0 : (lg_cmp (lN 0) (0 : Int64)) ≤ 0 := by decide
set_option maxHeartbeats 60000 in
theorem lc_p {o : Nat} (h : 0 < o) (ho : o < 2 ^ 63) : ¬ (lg_cmp (lN o) (0 : Int64)) ≤ 0 := by
  unfold lg_cmp
  have h1 : lN o > 0 := (pk_lLT (a := 0) (by decide) ho).mpr h
  rw [if_pos h1]
  decide
set_option maxHeartbeats 60000 in
theorem t_l0 {r P T c r2 : Nat} (hp : P + 2 ^ 32 + 977 = T) (hP : T < 2 * P) (hr : r < T) (h : ¬ r < P) (hr2 : r2 < T) (hc : c ≤ 1) (h2 : r2 + P = r + c * T) : r2 = r % P := by
  rcases c_01 hc with rfl | rfl
  · rw [show r = r2 + P by omega, Nat.add_mod_right, Nat.mod_eq_of_lt (by omega)]
  · omega
set_option maxHeartbeats 60000 in
theorem pP_2 : 2 ^ 256 < 2 * pP := by decide +kernel
set_option maxHeartbeats 60000 in
theorem t_m {r o P T r' c : Nat} (hp : P + 2 ^ 32 + 977 = T) (h : r' + c * T = r + o * (977 + 2 ^ 32)) : (r' + c * T) % P = (r + o * T) % P := by
  rw [h]
  have : r + o * T = r + o * (977 + 2 ^ 32) + P * o := by
    rw [← hp, show P + 2 ^ 32 + 977 = (977 + 2 ^ 32) + P by omega, Nat.mul_add, Nat.mul_comm P o, Nat.add_assoc]
  rw [this, Nat.add_mul_mod_self_left]
set_option maxHeartbeats 60000 in
theorem t_c1 {r o T r' c : Nat} (hT : 2 ^ 255 < T) (h : r' + c * T = r + o * (977 + 2 ^ 32)) (hr : r < T) (hr' : r' < T) (ho : o < 2 ^ 34) : c = 0 ∨ (c = 1 ∧ r' < 2 ^ 70) := by
  have h1 : o * (977 + 2 ^ 32) < 2 ^ 70 := by omega
  generalize o * (977 + 2 ^ 32) = q at *
  rcases Nat.lt_or_ge c 2 with h2 | h2
  · rcases c_01 (show c ≤ 1 by omega) with rfl | rfl
    · exact Or.inl rfl
    · exact Or.inr ⟨rfl, by omega⟩
  · have : 2 * T ≤ c * T := Nat.mul_le_mul_right T h2
    omega
set_option maxHeartbeats 60000 in
theorem t_c0 {r T r' c : Nat} (hT : 2 ^ 255 < T) (h : r' + c * T = r + 1 * (977 + 2 ^ 32)) (hr : r < 2 ^ 70) : c = 0 := by
  rcases Nat.lt_or_ge c 1 with h2 | h2
  · omega
  · have : 1 * T ≤ c * T := Nat.mul_le_mul_right T h2
    omega
set_option maxHeartbeats 60000 in
theorem T_255 : 2 ^ 255 < 2 ^ 256 := by decide
set_option maxHeartbeats 60000 in
theorem t_fin {lo hi r o P T : Nat} (hp : P + 2 ^ 32 + 977 = T) (h : r + o * T = lo + (977 + 2 ^ 32) * hi) : (r + o * T) % P = (lo + T * hi) % P := by
  rw [h]
  have : lo + T * hi = lo + (977 + 2 ^ 32) * hi + P * hi := by
    rw [← hp, show P + 2 ^ 32 + 977 = (977 + 2 ^ 32) + P by omega, Nat.add_mul, Nat.add_assoc]
  rw [this, Nat.add_mul_mod_self_left]
set_option maxHeartbeats 60000 in
theorem t_o {w c x b T r : Nat} (h : r + c * T = w) (e : w + b * T = x) : r + (c + b) * T = x := by
  rw [Nat.add_mul]; omega
set_option maxHeartbeats 60000 in
theorem l_M_times_131 (fu : Nat) (z : Nat → Int32) (h2 h3 : Nat → Int32) (k_118 : Int64 → (Nat → Int32) → (Nat → Int32) → Option ((Nat → Int32) × (Nat → Int32))) (Q : (Nat → Int32) × (Nat → Int32) → Prop) (u0 r : Nat → Int32) (o : Nat) (ho : o < 2 ^ 34) (hk : ∀ c u', cI (os r o) r r 8 c u' → ok (k_118 (lN c) u0 u') Q) :
    ∀ i j c u n, j + i = 8 → i < n → cI (os r o) r r j c u → ok (x_M_times_131 fu z h2 h3 k_118 n (lN c) (lN o) (nI j) u0 u) Q := by
  intro i
  induction i with
  | zero =>
    intro j c u n hj hn hI
    obtain ⟨n, rfl⟩ : ∃ m, n = m + 1 := ⟨n - 1, by omega⟩
    have e8 : j = 8 := by omega
    subst e8
    show ok (xb_M_times_131 fu z h2 h3 k_118 (x_M_times_131 fu z h2 h3 k_118 n) (lN c) (lN o) (nI 8) u0 u) Q
    unfold xb_M_times_131
    exact ok_t (show (8 : Int32) ≤ nI 8 from by decide) (hk c u hI)
  | succ i ih =>
    intro j c u n hj hn hI
    obtain ⟨n, rfl⟩ : ∃ m, n = m + 1 := ⟨n - 1, by omega⟩
    show ok (xb_M_times_131 fu z h2 h3 k_118 (x_M_times_131 fu z h2 h3 k_118 n) (lN c) (lN o) (nI j) u0 u) Q
    unfold xb_M_times_131
    obtain ⟨hb, hI'⟩ := cI_s (os_lt r ho j) hI
    have hr := ih (j + 1) _ _ n (by omega) (by omega) hI'
    have eu : u j = r j := hI.2.2.1 j (Nat.le_refl j)
    refine ok_f (show ¬ (8 : Int32) ≤ nI j from nI_ge (b := 8) (by omega) (by decide)) (ok_gd (inb_nI (by omega) (by decide)) (ok_bnd (ok_bnd (ok_bnd ?_))))
    rw [nI_clamp (n := j) (by omega), eu, l_mask]
    have key : ∀ (y : Int64) (e : Nat), y = lN e → os r o j = U (r j) + e → ok (xb_M_times_175 fu z h2 h3 k_118 (x_M_times_131 fu z h2 h3 k_118 n) (lN o) (nI j) y (lN (U (r j))) (lN c) u0 u) Q := by
      intro y e hy he
      unfold xb_M_times_175
      subst hy
      refine ok_bnd (ok_bnd (ok_gd (inb_nI (by omega) (by decide)) (ok_bnd (ok_bnd (ok_bnd ?_)))))
      rw [lN_add, lN_add, ← he, l_shr hb, lN_i, nI_1, nI_clamp (n := j) (by omega)]
      exact hr
    by_cases h0 : j = 0
    · subst h0
      exact ok_t (show nI 0 = 0 from nI_0) (key _ (o * 977) (lN_mul o 977) rfl)
    · refine ok_f (show ¬ nI j = 0 from nI_ne0 (by omega) (by omega)) ?_
      by_cases h1 : j = 1
      · subst h1
        exact ok_t (show nI 1 = 1 from rfl) (key _ o rfl rfl)
      · refine ok_f (show ¬ nI j = (1 : Int32) from fun e => h1 ((nI_eq (b := 1) (by omega) (by decide)).mp e)) (key _ 0 rfl ?_)
        unfold os
        rw [if_neg h0, if_neg h1]
set_option maxHeartbeats 60000 in
theorem l_M_times_z (fu : Nat) (hfu : 9 ≤ fu) (z : Nat → Int32) (h2 h3 : Nat → Int32) (u0 r : Nat → Int32) (n : Nat) : ok (x_M_times_118 fu z h2 h3 (n + 1) (lN 0) u0 r) (fun x => V x.2 8 = V r 8 % pP) := by
  show ok (xb_M_times_118 fu z h2 h3 (x_M_times_118 fu z h2 h3 n) (lN 0) u0 r) _
  unfold xb_M_times_118
  refine ok_t lc_0 ?_
  rw [v_M_compare_s1x22 fu hfu, bd1_q, V_22]
  refine ok_ite (fun h => ok_some ?_) (fun h => ?_)
  · exact (Nat.mod_eq_of_lt ((cmpN_lt _ _).mp h)).symm
  · obtain ⟨c2, r2, e2, hc2, h2⟩ := v_M_sub_e10s2x22 fu hfu r
    rw [e2, bd2_q]
    rw [V_22] at h2
    exact ok_some (t_l0 pP_e pP_2 (V8_lt r) (fun q => h ((cmpN_lt _ _).mpr q)) (V8_lt r2) hc2 h2)
set_option maxHeartbeats 60000 in
theorem l_M_times_118 (fu : Nat) (hfu : 9 ≤ fu) (z : Nat → Int32) (h2 h3 : Nat → Int32) (u0 r : Nat → Int32) (o : Nat) (ho : o < 2 ^ 34) (n : Nat) : ok (x_M_times_118 fu z h2 h3 (n + 3) (lN o) u0 r) (fun x => V x.2 8 = (V r 8 + o * 2 ^ 256) % pP) := by
  have step : ∀ (o : Nat) (r : Nat → Int32) (n : Nat) (Q : (Nat → Int32) × (Nat → Int32) → Prop), 0 < o → o < 2 ^ 34 → (∀ c r', V r' 8 + c * 2 ^ 256 = V r 8 + o * (977 + 2 ^ 32) → ok (x_M_times_118 fu z h2 h3 n (lN c) u0 r') Q) → ok (x_M_times_118 fu z h2 h3 (n + 1) (lN o) u0 r) Q := by
    intro o r n Q h0 ho hk
    show ok (xb_M_times_118 fu z h2 h3 (x_M_times_118 fu z h2 h3 n) (lN o) u0 r) _
    unfold xb_M_times_118
    refine ok_f (lc_p h0 (by omega)) ?_
    exact l_M_times_131 fu z h2 h3 _ Q u0 r o ho (fun c u' h => hk c u' (h.2.1.trans (os_W r o 6))) 8 0 0 r fu (by omega) (by omega) ⟨by decide, by rw [Nat.zero_mul]; rfl, fun m _ => rfl, rfl⟩
  rcases Nat.eq_zero_or_pos o with rfl | h0
  · refine ok_mono (l_M_times_z fu hfu z h2 h3 u0 r (n + 2)) (fun x hx => ?_)
    rw [hx, Nat.zero_mul, Nat.add_zero]
  · refine step o r (n + 2) _ h0 ho (fun c r' h => ?_)
    rw [← t_m pP_e h]
    rcases t_c1 T_255 h (V8_lt r) (V8_lt r') ho with rfl | ⟨rfl, hs⟩
    · refine ok_mono (l_M_times_z fu hfu z h2 h3 u0 r' (n + 1)) (fun x hx => ?_)
      rw [hx, Nat.zero_mul, Nat.add_zero]
    · refine step 1 r' (n + 1) _ (by decide) (by decide) (fun c2 r2 g2 => ?_)
      rw [← t_m pP_e g2]
      have := t_c0 T_255 g2 hs
      subst this
      refine ok_mono (l_M_times_z fu hfu z h2 h3 u0 r2 n) (fun x hx => ?_)
      rw [hx, Nat.zero_mul, Nat.add_zero]
set_option maxHeartbeats 60000 in
theorem l_M_times_12 (fu : Nat) (hfu : 9 ≤ fu) (z : Nat → Int32) (h2 h3 : Nat → Int32) (f w : Nat → Int32) :
    ∀ i j c u n, j + i = 8 → i < n → cI (fs f) f w j c u → ok (x_M_times_12 fu z h2 h3 n (lN c) (nI j) f u) (fun x => V x.2 8 = V f 16 % pP) := by
  intro i
  induction i with
  | zero =>
    intro j c u n hj hn hI
    obtain ⟨n, rfl⟩ : ∃ m, n = m + 1 := ⟨n - 1, by omega⟩
    have e8 : j = 8 := by omega
    subst e8
    show ok (xb_M_times_12 fu z h2 h3 (x_M_times_12 fu z h2 h3 n) (lN c) (nI 8) f u) _
    unfold xb_M_times_12
    refine ok_t (show (8 : Int32) ≤ nI 8 from by decide) (ok_bnd (ok_bnd (ok_bnd ?_)))
    rw [show (15 : Int32).toNatClampNeg = 15 by decide, l_mask, lN_add]
    obtain ⟨n', hn'⟩ : ∃ m, fu = m + 3 := ⟨fu - 3, by omega⟩
    have h15 := U_lt (f 15)
    have hc := hI.1
    have h := l_M_times_118 fu hfu z h2 h3 f u (c + U (f 15)) (by generalize U (f 15) = q at *; omega) n'
    rw [← hn'] at h
    refine ok_mono h (fun x hx => ?_)
    have e16 : V f 16 = V f 8 + 2 ^ 256 * V (fun j => f (8 + j)) 8 := V_add f 8 8
    rw [hx, t_fin pP_e (t_o hI.2.1 (fs_W f 7)), e16]
  | succ i ih =>
    intro j c u n hj hn hI
    obtain ⟨n, rfl⟩ : ∃ m, n = m + 1 := ⟨n - 1, by omega⟩
    show ok (xb_M_times_12 fu z h2 h3 (x_M_times_12 fu z h2 h3 n) (lN c) (nI j) f u) _
    unfold xb_M_times_12
    obtain ⟨hb, hI'⟩ := cI_s (fs_lt f j) hI
    have hr := ih (j + 1) _ _ n (by omega) (by omega) hI'
    have key : ∀ (y1 y0 : Int64) (e1 e0 : Nat), y1 = lN e1 → y0 = lN e0 → fs f j = e1 + e0 → ok (xb_M_times_77 fu z h2 h3 (x_M_times_12 fu z h2 h3 n) (nI j) y0 y1 (lN c) f u) (fun x => V x.2 8 = V f 16 % pP) := by
      intro y1 y0 e1 e0 h1 h0 he
      unfold xb_M_times_77
      subst h1 h0
      refine ok_bnd (ok_bnd (ok_gd (inb_nI (by omega) (by decide)) (ok_bnd (ok_bnd (ok_bnd ?_)))))
      rw [lN_add, lN_add, ← he, l_shr hb, lN_i, nI_1, nI_clamp (n := j) (by omega)]
      exact hr
    refine ok_f (show ¬ (8 : Int32) ≤ nI j from nI_ge (b := 8) (by omega) (by decide)) ?_
    rw [show (8 : Int32) + nI j = nI (8 + j) from nI_add 8 j, show (7 : Int32) + nI j = nI (7 + j) from nI_add 7 j]
    refine ok_gd (inb_nI (by omega) (by decide)) (ok_bnd (ok_bnd (ok_bnd (ok_bnd (ok_gd (inb_nI (by omega) (by decide)) (ok_bnd (ok_bnd (ok_bnd (ok_bnd ?_)))))))))
    rw [nI_clamp (n := j) (by omega), nI_clamp (n := 8 + j) (by omega), l_mask, l_mask, show lN (U (f (8 + j))) * (977 : Int64) = lN (U (f (8 + j)) * 977) from lN_mul _ 977, lN_add]
    by_cases h0 : j = 0
    · subst h0
      exact ok_t (show nI 0 ≤ 0 from by decide) (key _ _ _ 0 rfl rfl rfl)
    · refine ok_f (show ¬ nI j ≤ 0 from nI_nle (by omega) (by omega)) (ok_bnd (ok_gd (inb_nI (by omega) (by decide)) (ok_bnd (ok_bnd ?_))))
      rw [nI_clamp (n := 7 + j) (by omega), l_mask]
      refine key _ _ _ _ rfl rfl ?_
      unfold fs
      rw [if_neg h0]
set_option maxHeartbeats 60000 in
theorem v_M_times (fu : Nat) (hfu : 17 ≤ fu) (z : Nat → Int32) (h2 h3 : Nat → Int32) (u0 w : Nat → Int32) : ok (x_M_times fu z h2 h3 u0 w) (fun x => V x.2 8 = V h2 8 * V h3 8 % pP) := by
  unfold x_M_times
  refine ok_bd1 (v_M_multiply fu hfu z h2 h3 u0) (fun f hf => ?_)
  rw [← hf]
  exact l_M_times_12 fu (by omega) z h2 h3 f w 8 0 0 w fu (by omega) (by omega) ⟨by decide, by rw [Nat.zero_mul]; rfl, fun m _ => rfl, rfl⟩
set_option maxHeartbeats 60000 in
theorem l_M_times_e32_131 (fu : Nat) (z : Nat → Int32) (h2 : Nat → Int32) (k_118 : Int64 → (Nat → Int32) → (Nat → Int32) → Option ((Nat → Int32) × (Nat → Int32))) (Q : (Nat → Int32) × (Nat → Int32) → Prop) (u0 r : Nat → Int32) (o : Nat) (ho : o < 2 ^ 34) (hk : ∀ c u', cI (os r o) r r 8 c u' → ok (k_118 (lN c) u0 u') Q) :
    ∀ i j c u n, j + i = 8 → i < n → cI (os r o) r r j c u → ok (x_M_times_e32_131 fu z h2 k_118 n (lN c) (lN o) (nI j) u0 u) Q := by
  intro i
  induction i with
  | zero =>
    intro j c u n hj hn hI
    obtain ⟨n, rfl⟩ : ∃ m, n = m + 1 := ⟨n - 1, by omega⟩
    have e8 : j = 8 := by omega
    subst e8
    show ok (xb_M_times_e32_131 fu z h2 k_118 (x_M_times_e32_131 fu z h2 k_118 n) (lN c) (lN o) (nI 8) u0 u) Q
    unfold xb_M_times_e32_131
    exact ok_t (show (8 : Int32) ≤ nI 8 from by decide) (hk c u hI)
  | succ i ih =>
    intro j c u n hj hn hI
    obtain ⟨n, rfl⟩ : ∃ m, n = m + 1 := ⟨n - 1, by omega⟩
    show ok (xb_M_times_e32_131 fu z h2 k_118 (x_M_times_e32_131 fu z h2 k_118 n) (lN c) (lN o) (nI j) u0 u) Q
    unfold xb_M_times_e32_131
    obtain ⟨hb, hI'⟩ := cI_s (os_lt r ho j) hI
    have hr := ih (j + 1) _ _ n (by omega) (by omega) hI'
    have eu : u j = r j := hI.2.2.1 j (Nat.le_refl j)
    refine ok_f (show ¬ (8 : Int32) ≤ nI j from nI_ge (b := 8) (by omega) (by decide)) (ok_gd (inb_nI (by omega) (by decide)) (ok_bnd (ok_bnd (ok_bnd ?_))))
    rw [nI_clamp (n := j) (by omega), eu, l_mask]
    have key : ∀ (y : Int64) (e : Nat), y = lN e → os r o j = U (r j) + e → ok (xb_M_times_e32_175 fu z h2 k_118 (x_M_times_e32_131 fu z h2 k_118 n) (lN o) (nI j) y (lN (U (r j))) (lN c) u0 u) Q := by
      intro y e hy he
      unfold xb_M_times_e32_175
      subst hy
      refine ok_bnd (ok_bnd (ok_gd (inb_nI (by omega) (by decide)) (ok_bnd (ok_bnd (ok_bnd ?_)))))
      rw [lN_add, lN_add, ← he, l_shr hb, lN_i, nI_1, nI_clamp (n := j) (by omega)]
      exact hr
    by_cases h0 : j = 0
    · subst h0
      exact ok_t (show nI 0 = 0 from nI_0) (key _ (o * 977) (lN_mul o 977) rfl)
    · refine ok_f (show ¬ nI j = 0 from nI_ne0 (by omega) (by omega)) ?_
      by_cases h1 : j = 1
      · subst h1
        exact ok_t (show nI 1 = 1 from rfl) (key _ o rfl rfl)
      · refine ok_f (show ¬ nI j = (1 : Int32) from fun e => h1 ((nI_eq (b := 1) (by omega) (by decide)).mp e)) (key _ 0 rfl ?_)
        unfold os
        rw [if_neg h0, if_neg h1]
set_option maxHeartbeats 60000 in
theorem l_M_times_e32_z (fu : Nat) (hfu : 9 ≤ fu) (z : Nat → Int32) (h2 : Nat → Int32) (u0 r : Nat → Int32) (n : Nat) : ok (x_M_times_e32_118 fu z h2 (n + 1) (lN 0) u0 r) (fun x => V x.2 8 = V r 8 % pP) := by
  show ok (xb_M_times_e32_118 fu z h2 (x_M_times_e32_118 fu z h2 n) (lN 0) u0 r) _
  unfold xb_M_times_e32_118
  refine ok_t lc_0 ?_
  rw [v_M_compare_s1x22 fu hfu, bd1_q, V_22]
  refine ok_ite (fun h => ok_some ?_) (fun h => ?_)
  · exact (Nat.mod_eq_of_lt ((cmpN_lt _ _).mp h)).symm
  · obtain ⟨c2, r2, e2, hc2, h2⟩ := v_M_sub_e10s2x22 fu hfu r
    rw [e2, bd2_q]
    rw [V_22] at h2
    exact ok_some (t_l0 pP_e pP_2 (V8_lt r) (fun q => h ((cmpN_lt _ _).mpr q)) (V8_lt r2) hc2 h2)
set_option maxHeartbeats 60000 in
theorem l_M_times_e32_118 (fu : Nat) (hfu : 9 ≤ fu) (z : Nat → Int32) (h2 : Nat → Int32) (u0 r : Nat → Int32) (o : Nat) (ho : o < 2 ^ 34) (n : Nat) : ok (x_M_times_e32_118 fu z h2 (n + 3) (lN o) u0 r) (fun x => V x.2 8 = (V r 8 + o * 2 ^ 256) % pP) := by
  have step : ∀ (o : Nat) (r : Nat → Int32) (n : Nat) (Q : (Nat → Int32) × (Nat → Int32) → Prop), 0 < o → o < 2 ^ 34 → (∀ c r', V r' 8 + c * 2 ^ 256 = V r 8 + o * (977 + 2 ^ 32) → ok (x_M_times_e32_118 fu z h2 n (lN c) u0 r') Q) → ok (x_M_times_e32_118 fu z h2 (n + 1) (lN o) u0 r) Q := by
    intro o r n Q h0 ho hk
    show ok (xb_M_times_e32_118 fu z h2 (x_M_times_e32_118 fu z h2 n) (lN o) u0 r) _
    unfold xb_M_times_e32_118
    refine ok_f (lc_p h0 (by omega)) ?_
    exact l_M_times_e32_131 fu z h2 _ Q u0 r o ho (fun c u' h => hk c u' (h.2.1.trans (os_W r o 6))) 8 0 0 r fu (by omega) (by omega) ⟨by decide, by rw [Nat.zero_mul]; rfl, fun m _ => rfl, rfl⟩
  rcases Nat.eq_zero_or_pos o with rfl | h0
  · refine ok_mono (l_M_times_e32_z fu hfu z h2 u0 r (n + 2)) (fun x hx => ?_)
    rw [hx, Nat.zero_mul, Nat.add_zero]
  · refine step o r (n + 2) _ h0 ho (fun c r' h => ?_)
    rw [← t_m pP_e h]
    rcases t_c1 T_255 h (V8_lt r) (V8_lt r') ho with rfl | ⟨rfl, hs⟩
    · refine ok_mono (l_M_times_e32_z fu hfu z h2 u0 r' (n + 1)) (fun x hx => ?_)
      rw [hx, Nat.zero_mul, Nat.add_zero]
    · refine step 1 r' (n + 1) _ (by decide) (by decide) (fun c2 r2 g2 => ?_)
      rw [← t_m pP_e g2]
      have := t_c0 T_255 g2 hs
      subst this
      refine ok_mono (l_M_times_e32_z fu hfu z h2 u0 r2 n) (fun x hx => ?_)
      rw [hx, Nat.zero_mul, Nat.add_zero]
set_option maxHeartbeats 60000 in
theorem l_M_times_e32_12 (fu : Nat) (hfu : 9 ≤ fu) (z : Nat → Int32) (h2 : Nat → Int32) (f w : Nat → Int32) :
    ∀ i j c u n, j + i = 8 → i < n → cI (fs f) f w j c u → ok (x_M_times_e32_12 fu z h2 n (lN c) (nI j) f u) (fun x => V x.2 8 = V f 16 % pP) := by
  intro i
  induction i with
  | zero =>
    intro j c u n hj hn hI
    obtain ⟨n, rfl⟩ : ∃ m, n = m + 1 := ⟨n - 1, by omega⟩
    have e8 : j = 8 := by omega
    subst e8
    show ok (xb_M_times_e32_12 fu z h2 (x_M_times_e32_12 fu z h2 n) (lN c) (nI 8) f u) _
    unfold xb_M_times_e32_12
    refine ok_t (show (8 : Int32) ≤ nI 8 from by decide) (ok_bnd (ok_bnd (ok_bnd ?_)))
    rw [show (15 : Int32).toNatClampNeg = 15 by decide, l_mask, lN_add]
    obtain ⟨n', hn'⟩ : ∃ m, fu = m + 3 := ⟨fu - 3, by omega⟩
    have h15 := U_lt (f 15)
    have hc := hI.1
    have h := l_M_times_e32_118 fu hfu z h2 f u (c + U (f 15)) (by generalize U (f 15) = q at *; omega) n'
    rw [← hn'] at h
    refine ok_mono h (fun x hx => ?_)
    have e16 : V f 16 = V f 8 + 2 ^ 256 * V (fun j => f (8 + j)) 8 := V_add f 8 8
    rw [hx, t_fin pP_e (t_o hI.2.1 (fs_W f 7)), e16]
  | succ i ih =>
    intro j c u n hj hn hI
    obtain ⟨n, rfl⟩ : ∃ m, n = m + 1 := ⟨n - 1, by omega⟩
    show ok (xb_M_times_e32_12 fu z h2 (x_M_times_e32_12 fu z h2 n) (lN c) (nI j) f u) _
    unfold xb_M_times_e32_12
    obtain ⟨hb, hI'⟩ := cI_s (fs_lt f j) hI
    have hr := ih (j + 1) _ _ n (by omega) (by omega) hI'
    have key : ∀ (y1 y0 : Int64) (e1 e0 : Nat), y1 = lN e1 → y0 = lN e0 → fs f j = e1 + e0 → ok (xb_M_times_e32_77 fu z h2 (x_M_times_e32_12 fu z h2 n) (nI j) y0 y1 (lN c) f u) (fun x => V x.2 8 = V f 16 % pP) := by
      intro y1 y0 e1 e0 h1 h0 he
      unfold xb_M_times_e32_77
      subst h1 h0
      refine ok_bnd (ok_bnd (ok_gd (inb_nI (by omega) (by decide)) (ok_bnd (ok_bnd (ok_bnd ?_)))))
      rw [lN_add, lN_add, ← he, l_shr hb, lN_i, nI_1, nI_clamp (n := j) (by omega)]
      exact hr
    refine ok_f (show ¬ (8 : Int32) ≤ nI j from nI_ge (b := 8) (by omega) (by decide)) ?_
    rw [show (8 : Int32) + nI j = nI (8 + j) from nI_add 8 j, show (7 : Int32) + nI j = nI (7 + j) from nI_add 7 j]
    refine ok_gd (inb_nI (by omega) (by decide)) (ok_bnd (ok_bnd (ok_bnd (ok_bnd (ok_gd (inb_nI (by omega) (by decide)) (ok_bnd (ok_bnd (ok_bnd (ok_bnd ?_)))))))))
    rw [nI_clamp (n := j) (by omega), nI_clamp (n := 8 + j) (by omega), l_mask, l_mask, show lN (U (f (8 + j))) * (977 : Int64) = lN (U (f (8 + j)) * 977) from lN_mul _ 977, lN_add]
    by_cases h0 : j = 0
    · subst h0
      exact ok_t (show nI 0 ≤ 0 from by decide) (key _ _ _ 0 rfl rfl rfl)
    · refine ok_f (show ¬ nI j ≤ 0 from nI_nle (by omega) (by omega)) (ok_bnd (ok_gd (inb_nI (by omega) (by decide)) (ok_bnd (ok_bnd ?_))))
      rw [nI_clamp (n := 7 + j) (by omega), l_mask]
      refine key _ _ _ _ rfl rfl ?_
      unfold fs
      rw [if_neg h0]
set_option maxHeartbeats 60000 in
theorem v_M_times_e32 (fu : Nat) (hfu : 17 ≤ fu) (z : Nat → Int32) (h2 : Nat → Int32) (u0 w : Nat → Int32) : ok (x_M_times_e32 fu z h2 u0 w) (fun x => V x.2 8 = V h2 8 * V h2 8 % pP) := by
  unfold x_M_times_e32
  refine ok_bd1 (v_M_multiply_e21 fu hfu z h2 u0) (fun f hf => ?_)
  rw [← hf]
  exact l_M_times_e32_12 fu (by omega) z h2 f w 8 0 0 w fu (by omega) (by omega) ⟨by decide, by rw [Nat.zero_mul]; rfl, fun m _ => rfl, rfl⟩
set_option maxHeartbeats 60000 in
theorem l_M_times_e21_131 (fu : Nat) (z : Nat → Int32) (h3 : Nat → Int32) (k_118 : Int64 → (Nat → Int32) → (Nat → Int32) → Option ((Nat → Int32) × (Nat → Int32))) (Q : (Nat → Int32) × (Nat → Int32) → Prop) (u0 r : Nat → Int32) (o : Nat) (ho : o < 2 ^ 34) (hk : ∀ c u', cI (os r o) r r 8 c u' → ok (k_118 (lN c) u0 u') Q) :
    ∀ i j c u n, j + i = 8 → i < n → cI (os r o) r r j c u → ok (x_M_times_e21_131 fu z h3 k_118 n (lN c) (lN o) (nI j) u0 u) Q := by
  intro i
  induction i with
  | zero =>
    intro j c u n hj hn hI
    obtain ⟨n, rfl⟩ : ∃ m, n = m + 1 := ⟨n - 1, by omega⟩
    have e8 : j = 8 := by omega
    subst e8
    show ok (xb_M_times_e21_131 fu z h3 k_118 (x_M_times_e21_131 fu z h3 k_118 n) (lN c) (lN o) (nI 8) u0 u) Q
    unfold xb_M_times_e21_131
    exact ok_t (show (8 : Int32) ≤ nI 8 from by decide) (hk c u hI)
  | succ i ih =>
    intro j c u n hj hn hI
    obtain ⟨n, rfl⟩ : ∃ m, n = m + 1 := ⟨n - 1, by omega⟩
    show ok (xb_M_times_e21_131 fu z h3 k_118 (x_M_times_e21_131 fu z h3 k_118 n) (lN c) (lN o) (nI j) u0 u) Q
    unfold xb_M_times_e21_131
    obtain ⟨hb, hI'⟩ := cI_s (os_lt r ho j) hI
    have hr := ih (j + 1) _ _ n (by omega) (by omega) hI'
    have eu : u j = r j := hI.2.2.1 j (Nat.le_refl j)
    refine ok_f (show ¬ (8 : Int32) ≤ nI j from nI_ge (b := 8) (by omega) (by decide)) (ok_gd (inb_nI (by omega) (by decide)) (ok_bnd (ok_bnd (ok_bnd ?_))))
    rw [nI_clamp (n := j) (by omega), eu, l_mask]
    have key : ∀ (y : Int64) (e : Nat), y = lN e → os r o j = U (r j) + e → ok (xb_M_times_e21_175 fu z h3 k_118 (x_M_times_e21_131 fu z h3 k_118 n) (lN o) (nI j) y (lN (U (r j))) (lN c) u0 u) Q := by
      intro y e hy he
      unfold xb_M_times_e21_175
      subst hy
      refine ok_bnd (ok_bnd (ok_gd (inb_nI (by omega) (by decide)) (ok_bnd (ok_bnd (ok_bnd ?_)))))
      rw [lN_add, lN_add, ← he, l_shr hb, lN_i, nI_1, nI_clamp (n := j) (by omega)]
      exact hr
    by_cases h0 : j = 0
    · subst h0
      exact ok_t (show nI 0 = 0 from nI_0) (key _ (o * 977) (lN_mul o 977) rfl)
    · refine ok_f (show ¬ nI j = 0 from nI_ne0 (by omega) (by omega)) ?_
      by_cases h1 : j = 1
      · subst h1
        exact ok_t (show nI 1 = 1 from rfl) (key _ o rfl rfl)
      · refine ok_f (show ¬ nI j = (1 : Int32) from fun e => h1 ((nI_eq (b := 1) (by omega) (by decide)).mp e)) (key _ 0 rfl ?_)
        unfold os
        rw [if_neg h0, if_neg h1]
set_option maxHeartbeats 60000 in
theorem l_M_times_e21_z (fu : Nat) (hfu : 9 ≤ fu) (z : Nat → Int32) (h3 : Nat → Int32) (u0 r : Nat → Int32) (n : Nat) : ok (x_M_times_e21_118 fu z h3 (n + 1) (lN 0) u0 r) (fun x => V x.2 8 = V r 8 % pP) := by
  show ok (xb_M_times_e21_118 fu z h3 (x_M_times_e21_118 fu z h3 n) (lN 0) u0 r) _
  unfold xb_M_times_e21_118
  refine ok_t lc_0 ?_
  rw [v_M_compare_s1x22 fu hfu, bd1_q, V_22]
  refine ok_ite (fun h => ok_some ?_) (fun h => ?_)
  · exact (Nat.mod_eq_of_lt ((cmpN_lt _ _).mp h)).symm
  · obtain ⟨c2, r2, e2, hc2, h2⟩ := v_M_sub_e10s2x22 fu hfu r
    rw [e2, bd2_q]
    rw [V_22] at h2
    exact ok_some (t_l0 pP_e pP_2 (V8_lt r) (fun q => h ((cmpN_lt _ _).mpr q)) (V8_lt r2) hc2 h2)
set_option maxHeartbeats 60000 in
theorem l_M_times_e21_118 (fu : Nat) (hfu : 9 ≤ fu) (z : Nat → Int32) (h3 : Nat → Int32) (u0 r : Nat → Int32) (o : Nat) (ho : o < 2 ^ 34) (n : Nat) : ok (x_M_times_e21_118 fu z h3 (n + 3) (lN o) u0 r) (fun x => V x.2 8 = (V r 8 + o * 2 ^ 256) % pP) := by
  have step : ∀ (o : Nat) (r : Nat → Int32) (n : Nat) (Q : (Nat → Int32) × (Nat → Int32) → Prop), 0 < o → o < 2 ^ 34 → (∀ c r', V r' 8 + c * 2 ^ 256 = V r 8 + o * (977 + 2 ^ 32) → ok (x_M_times_e21_118 fu z h3 n (lN c) u0 r') Q) → ok (x_M_times_e21_118 fu z h3 (n + 1) (lN o) u0 r) Q := by
    intro o r n Q h0 ho hk
    show ok (xb_M_times_e21_118 fu z h3 (x_M_times_e21_118 fu z h3 n) (lN o) u0 r) _
    unfold xb_M_times_e21_118
    refine ok_f (lc_p h0 (by omega)) ?_
    exact l_M_times_e21_131 fu z h3 _ Q u0 r o ho (fun c u' h => hk c u' (h.2.1.trans (os_W r o 6))) 8 0 0 r fu (by omega) (by omega) ⟨by decide, by rw [Nat.zero_mul]; rfl, fun m _ => rfl, rfl⟩
  rcases Nat.eq_zero_or_pos o with rfl | h0
  · refine ok_mono (l_M_times_e21_z fu hfu z h3 u0 r (n + 2)) (fun x hx => ?_)
    rw [hx, Nat.zero_mul, Nat.add_zero]
  · refine step o r (n + 2) _ h0 ho (fun c r' h => ?_)
    rw [← t_m pP_e h]
    rcases t_c1 T_255 h (V8_lt r) (V8_lt r') ho with rfl | ⟨rfl, hs⟩
    · refine ok_mono (l_M_times_e21_z fu hfu z h3 u0 r' (n + 1)) (fun x hx => ?_)
      rw [hx, Nat.zero_mul, Nat.add_zero]
    · refine step 1 r' (n + 1) _ (by decide) (by decide) (fun c2 r2 g2 => ?_)
      rw [← t_m pP_e g2]
      have := t_c0 T_255 g2 hs
      subst this
      refine ok_mono (l_M_times_e21_z fu hfu z h3 u0 r2 n) (fun x hx => ?_)
      rw [hx, Nat.zero_mul, Nat.add_zero]
set_option maxHeartbeats 60000 in
theorem l_M_times_e21_12 (fu : Nat) (hfu : 9 ≤ fu) (z : Nat → Int32) (h3 : Nat → Int32) (f w : Nat → Int32) :
    ∀ i j c u n, j + i = 8 → i < n → cI (fs f) f w j c u → ok (x_M_times_e21_12 fu z h3 n (lN c) (nI j) f u) (fun x => V x.2 8 = V f 16 % pP) := by
  intro i
  induction i with
  | zero =>
    intro j c u n hj hn hI
    obtain ⟨n, rfl⟩ : ∃ m, n = m + 1 := ⟨n - 1, by omega⟩
    have e8 : j = 8 := by omega
    subst e8
    show ok (xb_M_times_e21_12 fu z h3 (x_M_times_e21_12 fu z h3 n) (lN c) (nI 8) f u) _
    unfold xb_M_times_e21_12
    refine ok_t (show (8 : Int32) ≤ nI 8 from by decide) (ok_bnd (ok_bnd (ok_bnd ?_)))
    rw [show (15 : Int32).toNatClampNeg = 15 by decide, l_mask, lN_add]
    obtain ⟨n', hn'⟩ : ∃ m, fu = m + 3 := ⟨fu - 3, by omega⟩
    have h15 := U_lt (f 15)
    have hc := hI.1
    have h := l_M_times_e21_118 fu hfu z h3 f u (c + U (f 15)) (by generalize U (f 15) = q at *; omega) n'
    rw [← hn'] at h
    refine ok_mono h (fun x hx => ?_)
    have e16 : V f 16 = V f 8 + 2 ^ 256 * V (fun j => f (8 + j)) 8 := V_add f 8 8
    rw [hx, t_fin pP_e (t_o hI.2.1 (fs_W f 7)), e16]
  | succ i ih =>
    intro j c u n hj hn hI
    obtain ⟨n, rfl⟩ : ∃ m, n = m + 1 := ⟨n - 1, by omega⟩
    show ok (xb_M_times_e21_12 fu z h3 (x_M_times_e21_12 fu z h3 n) (lN c) (nI j) f u) _
    unfold xb_M_times_e21_12
    obtain ⟨hb, hI'⟩ := cI_s (fs_lt f j) hI
    have hr := ih (j + 1) _ _ n (by omega) (by omega) hI'
    have key : ∀ (y1 y0 : Int64) (e1 e0 : Nat), y1 = lN e1 → y0 = lN e0 → fs f j = e1 + e0 → ok (xb_M_times_e21_77 fu z h3 (x_M_times_e21_12 fu z h3 n) (nI j) y0 y1 (lN c) f u) (fun x => V x.2 8 = V f 16 % pP) := by
      intro y1 y0 e1 e0 h1 h0 he
      unfold xb_M_times_e21_77
      subst h1 h0
      refine ok_bnd (ok_bnd (ok_gd (inb_nI (by omega) (by decide)) (ok_bnd (ok_bnd (ok_bnd ?_)))))
      rw [lN_add, lN_add, ← he, l_shr hb, lN_i, nI_1, nI_clamp (n := j) (by omega)]
      exact hr
    refine ok_f (show ¬ (8 : Int32) ≤ nI j from nI_ge (b := 8) (by omega) (by decide)) ?_
    rw [show (8 : Int32) + nI j = nI (8 + j) from nI_add 8 j, show (7 : Int32) + nI j = nI (7 + j) from nI_add 7 j]
    refine ok_gd (inb_nI (by omega) (by decide)) (ok_bnd (ok_bnd (ok_bnd (ok_bnd (ok_gd (inb_nI (by omega) (by decide)) (ok_bnd (ok_bnd (ok_bnd (ok_bnd ?_)))))))))
    rw [nI_clamp (n := j) (by omega), nI_clamp (n := 8 + j) (by omega), l_mask, l_mask, show lN (U (f (8 + j))) * (977 : Int64) = lN (U (f (8 + j)) * 977) from lN_mul _ 977, lN_add]
    by_cases h0 : j = 0
    · subst h0
      exact ok_t (show nI 0 ≤ 0 from by decide) (key _ _ _ 0 rfl rfl rfl)
    · refine ok_f (show ¬ nI j ≤ 0 from nI_nle (by omega) (by omega)) (ok_bnd (ok_gd (inb_nI (by omega) (by decide)) (ok_bnd (ok_bnd ?_))))
      rw [nI_clamp (n := 7 + j) (by omega), l_mask]
      refine key _ _ _ _ rfl rfl ?_
      unfold fs
      rw [if_neg h0]
set_option maxHeartbeats 60000 in
theorem v_M_times_e21 (fu : Nat) (hfu : 17 ≤ fu) (z : Nat → Int32) (h3 : Nat → Int32) (u0 w : Nat → Int32) : ok (x_M_times_e21 fu z h3 u0 w) (fun x => V x.2 8 = V w 8 * V h3 8 % pP) := by
  unfold x_M_times_e21
  refine ok_bd1 (v_M_multiply fu hfu z w h3 u0) (fun f hf => ?_)
  rw [← hf]
  exact l_M_times_e21_12 fu (by omega) z h3 f w 8 0 0 w fu (by omega) (by omega) ⟨by decide, by rw [Nat.zero_mul]; rfl, fun m _ => rfl, rfl⟩
set_option maxHeartbeats 60000 in
theorem l_M_times_e21e31_131 (fu : Nat) (z : Nat → Int32) (k_118 : Int64 → (Nat → Int32) → (Nat → Int32) → Option ((Nat → Int32) × (Nat → Int32))) (Q : (Nat → Int32) × (Nat → Int32) → Prop) (u0 r : Nat → Int32) (o : Nat) (ho : o < 2 ^ 34) (hk : ∀ c u', cI (os r o) r r 8 c u' → ok (k_118 (lN c) u0 u') Q) :
    ∀ i j c u n, j + i = 8 → i < n → cI (os r o) r r j c u → ok (x_M_times_e21e31_131 fu z  k_118 n (lN c) (lN o) (nI j) u0 u) Q := by
  intro i
  induction i with
  | zero =>
    intro j c u n hj hn hI
    obtain ⟨n, rfl⟩ : ∃ m, n = m + 1 := ⟨n - 1, by omega⟩
    have e8 : j = 8 := by omega
    subst e8
    show ok (xb_M_times_e21e31_131 fu z  k_118 (x_M_times_e21e31_131 fu z  k_118 n) (lN c) (lN o) (nI 8) u0 u) Q
    unfold xb_M_times_e21e31_131
    exact ok_t (show (8 : Int32) ≤ nI 8 from by decide) (hk c u hI)
  | succ i ih =>
    intro j c u n hj hn hI
    obtain ⟨n, rfl⟩ : ∃ m, n = m + 1 := ⟨n - 1, by omega⟩
    show ok (xb_M_times_e21e31_131 fu z  k_118 (x_M_times_e21e31_131 fu z  k_118 n) (lN c) (lN o) (nI j) u0 u) Q
    unfold xb_M_times_e21e31_131
    obtain ⟨hb, hI'⟩ := cI_s (os_lt r ho j) hI
    have hr := ih (j + 1) _ _ n (by omega) (by omega) hI'
    have eu : u j = r j := hI.2.2.1 j (Nat.le_refl j)
    refine ok_f (show ¬ (8 : Int32) ≤ nI j from nI_ge (b := 8) (by omega) (by decide)) (ok_gd (inb_nI (by omega) (by decide)) (ok_bnd (ok_bnd (ok_bnd ?_))))
    rw [nI_clamp (n := j) (by omega), eu, l_mask]
    have key : ∀ (y : Int64) (e : Nat), y = lN e → os r o j = U (r j) + e → ok (xb_M_times_e21e31_175 fu z  k_118 (x_M_times_e21e31_131 fu z  k_118 n) (lN o) (nI j) y (lN (U (r j))) (lN c) u0 u) Q := by
      intro y e hy he
      unfold xb_M_times_e21e31_175
      subst hy
      refine ok_bnd (ok_bnd (ok_gd (inb_nI (by omega) (by decide)) (ok_bnd (ok_bnd (ok_bnd ?_)))))
      rw [lN_add, lN_add, ← he, l_shr hb, lN_i, nI_1, nI_clamp (n := j) (by omega)]
      exact hr
    by_cases h0 : j = 0
    · subst h0
      exact ok_t (show nI 0 = 0 from nI_0) (key _ (o * 977) (lN_mul o 977) rfl)
    · refine ok_f (show ¬ nI j = 0 from nI_ne0 (by omega) (by omega)) ?_
      by_cases h1 : j = 1
      · subst h1
        exact ok_t (show nI 1 = 1 from rfl) (key _ o rfl rfl)
      · refine ok_f (show ¬ nI j = (1 : Int32) from fun e => h1 ((nI_eq (b := 1) (by omega) (by decide)).mp e)) (key _ 0 rfl ?_)
        unfold os
        rw [if_neg h0, if_neg h1]
set_option maxHeartbeats 60000 in
theorem l_M_times_e21e31_z (fu : Nat) (hfu : 9 ≤ fu) (z : Nat → Int32) (u0 r : Nat → Int32) (n : Nat) : ok (x_M_times_e21e31_118 fu z  (n + 1) (lN 0) u0 r) (fun x => V x.2 8 = V r 8 % pP) := by
  show ok (xb_M_times_e21e31_118 fu z  (x_M_times_e21e31_118 fu z  n) (lN 0) u0 r) _
  unfold xb_M_times_e21e31_118
  refine ok_t lc_0 ?_
  rw [v_M_compare_s1x22 fu hfu, bd1_q, V_22]
  refine ok_ite (fun h => ok_some ?_) (fun h => ?_)
  · exact (Nat.mod_eq_of_lt ((cmpN_lt _ _).mp h)).symm
  · obtain ⟨c2, r2, e2, hc2, h2⟩ := v_M_sub_e10s2x22 fu hfu r
    rw [e2, bd2_q]
    rw [V_22] at h2
    exact ok_some (t_l0 pP_e pP_2 (V8_lt r) (fun q => h ((cmpN_lt _ _).mpr q)) (V8_lt r2) hc2 h2)
set_option maxHeartbeats 60000 in
theorem l_M_times_e21e31_118 (fu : Nat) (hfu : 9 ≤ fu) (z : Nat → Int32) (u0 r : Nat → Int32) (o : Nat) (ho : o < 2 ^ 34) (n : Nat) : ok (x_M_times_e21e31_118 fu z  (n + 3) (lN o) u0 r) (fun x => V x.2 8 = (V r 8 + o * 2 ^ 256) % pP) := by
  have step : ∀ (o : Nat) (r : Nat → Int32) (n : Nat) (Q : (Nat → Int32) × (Nat → Int32) → Prop), 0 < o → o < 2 ^ 34 → (∀ c r', V r' 8 + c * 2 ^ 256 = V r 8 + o * (977 + 2 ^ 32) → ok (x_M_times_e21e31_118 fu z  n (lN c) u0 r') Q) → ok (x_M_times_e21e31_118 fu z  (n + 1) (lN o) u0 r) Q := by
    intro o r n Q h0 ho hk
    show ok (xb_M_times_e21e31_118 fu z  (x_M_times_e21e31_118 fu z  n) (lN o) u0 r) _
    unfold xb_M_times_e21e31_118
    refine ok_f (lc_p h0 (by omega)) ?_
    exact l_M_times_e21e31_131 fu z  _ Q u0 r o ho (fun c u' h => hk c u' (h.2.1.trans (os_W r o 6))) 8 0 0 r fu (by omega) (by omega) ⟨by decide, by rw [Nat.zero_mul]; rfl, fun m _ => rfl, rfl⟩
  rcases Nat.eq_zero_or_pos o with rfl | h0
  · refine ok_mono (l_M_times_e21e31_z fu hfu z  u0 r (n + 2)) (fun x hx => ?_)
    rw [hx, Nat.zero_mul, Nat.add_zero]
  · refine step o r (n + 2) _ h0 ho (fun c r' h => ?_)
    rw [← t_m pP_e h]
    rcases t_c1 T_255 h (V8_lt r) (V8_lt r') ho with rfl | ⟨rfl, hs⟩
    · refine ok_mono (l_M_times_e21e31_z fu hfu z  u0 r' (n + 1)) (fun x hx => ?_)
      rw [hx, Nat.zero_mul, Nat.add_zero]
    · refine step 1 r' (n + 1) _ (by decide) (by decide) (fun c2 r2 g2 => ?_)
      rw [← t_m pP_e g2]
      have := t_c0 T_255 g2 hs
      subst this
      refine ok_mono (l_M_times_e21e31_z fu hfu z  u0 r2 n) (fun x hx => ?_)
      rw [hx, Nat.zero_mul, Nat.add_zero]
set_option maxHeartbeats 60000 in
theorem l_M_times_e21e31_12 (fu : Nat) (hfu : 9 ≤ fu) (z : Nat → Int32) (f w : Nat → Int32) :
    ∀ i j c u n, j + i = 8 → i < n → cI (fs f) f w j c u → ok (x_M_times_e21e31_12 fu z  n (lN c) (nI j) f u) (fun x => V x.2 8 = V f 16 % pP) := by
  intro i
  induction i with
  | zero =>
    intro j c u n hj hn hI
    obtain ⟨n, rfl⟩ : ∃ m, n = m + 1 := ⟨n - 1, by omega⟩
    have e8 : j = 8 := by omega
    subst e8
    show ok (xb_M_times_e21e31_12 fu z  (x_M_times_e21e31_12 fu z  n) (lN c) (nI 8) f u) _
    unfold xb_M_times_e21e31_12
    refine ok_t (show (8 : Int32) ≤ nI 8 from by decide) (ok_bnd (ok_bnd (ok_bnd ?_)))
    rw [show (15 : Int32).toNatClampNeg = 15 by decide, l_mask, lN_add]
    obtain ⟨n', hn'⟩ : ∃ m, fu = m + 3 := ⟨fu - 3, by omega⟩
    have h15 := U_lt (f 15)
    have hc := hI.1
    have h := l_M_times_e21e31_118 fu hfu z  f u (c + U (f 15)) (by generalize U (f 15) = q at *; omega) n'
    rw [← hn'] at h
    refine ok_mono h (fun x hx => ?_)
    have e16 : V f 16 = V f 8 + 2 ^ 256 * V (fun j => f (8 + j)) 8 := V_add f 8 8
    rw [hx, t_fin pP_e (t_o hI.2.1 (fs_W f 7)), e16]
  | succ i ih =>
    intro j c u n hj hn hI
    obtain ⟨n, rfl⟩ : ∃ m, n = m + 1 := ⟨n - 1, by omega⟩
    show ok (xb_M_times_e21e31_12 fu z  (x_M_times_e21e31_12 fu z  n) (lN c) (nI j) f u) _
    unfold xb_M_times_e21e31_12
    obtain ⟨hb, hI'⟩ := cI_s (fs_lt f j) hI
    have hr := ih (j + 1) _ _ n (by omega) (by omega) hI'
    have key : ∀ (y1 y0 : Int64) (e1 e0 : Nat), y1 = lN e1 → y0 = lN e0 → fs f j = e1 + e0 → ok (xb_M_times_e21e31_77 fu z  (x_M_times_e21e31_12 fu z  n) (nI j) y0 y1 (lN c) f u) (fun x => V x.2 8 = V f 16 % pP) := by
      intro y1 y0 e1 e0 h1 h0 he
      unfold xb_M_times_e21e31_77
      subst h1 h0
      refine ok_bnd (ok_bnd (ok_gd (inb_nI (by omega) (by decide)) (ok_bnd (ok_bnd (ok_bnd ?_)))))
      rw [lN_add, lN_add, ← he, l_shr hb, lN_i, nI_1, nI_clamp (n := j) (by omega)]
      exact hr
    refine ok_f (show ¬ (8 : Int32) ≤ nI j from nI_ge (b := 8) (by omega) (by decide)) ?_
    rw [show (8 : Int32) + nI j = nI (8 + j) from nI_add 8 j, show (7 : Int32) + nI j = nI (7 + j) from nI_add 7 j]
    refine ok_gd (inb_nI (by omega) (by decide)) (ok_bnd (ok_bnd (ok_bnd (ok_bnd (ok_gd (inb_nI (by omega) (by decide)) (ok_bnd (ok_bnd (ok_bnd (ok_bnd ?_)))))))))
    rw [nI_clamp (n := j) (by omega), nI_clamp (n := 8 + j) (by omega), l_mask, l_mask, show lN (U (f (8 + j))) * (977 : Int64) = lN (U (f (8 + j)) * 977) from lN_mul _ 977, lN_add]
    by_cases h0 : j = 0
    · subst h0
      exact ok_t (show nI 0 ≤ 0 from by decide) (key _ _ _ 0 rfl rfl rfl)
    · refine ok_f (show ¬ nI j ≤ 0 from nI_nle (by omega) (by omega)) (ok_bnd (ok_gd (inb_nI (by omega) (by decide)) (ok_bnd (ok_bnd ?_))))
      rw [nI_clamp (n := 7 + j) (by omega), l_mask]
      refine key _ _ _ _ rfl rfl ?_
      unfold fs
      rw [if_neg h0]
set_option maxHeartbeats 60000 in
theorem v_M_times_e21e31 (fu : Nat) (hfu : 17 ≤ fu) (z : Nat → Int32) (u0 w : Nat → Int32) : ok (x_M_times_e21e31 fu z  u0 w) (fun x => V x.2 8 = V w 8 * V w 8 % pP) := by
  unfold x_M_times_e21e31
  refine ok_bd1 (v_M_multiply_e21 fu hfu z w u0) (fun f hf => ?_)
  rw [← hf]
  exact l_M_times_e21e31_12 fu (by omega) z  f w 8 0 0 w fu (by omega) (by omega) ⟨by decide, by rw [Nat.zero_mul]; rfl, fun m _ => rfl, rfl⟩
