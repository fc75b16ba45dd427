set_option maxHeartbeats 60000 in
theorem V_low (u : Nat → Int32) : V u 8 % 2 = U (u 0) % 2 := by
  have h : V u 8 = V u 1 + 2 ^ 32 * V (fun j => u (1 + j)) 7 := V_add u 1 7
  have h1 : V u 1 = U (u 0) := by
    show 0 + U (u 0) * 2 ^ 0 = _
    omega
  rw [h, h1]
  generalize V (fun j => u (1 + j)) 7 = q
  generalize U (u 0) = a
  omega
set_option maxHeartbeats 60000 in
theorem u_and1 (x : Int32) : U (x &&& (1 : Int32)) = U x % 2 := by
  have h := pk_and x (m := 1) 1 (by decide)
  rw [h, Nat.pow_one, U_nI (by have := Nat.mod_lt x.toBitVec.toNat (show 0 < 2 by decide); omega)]
  rfl
set_option maxHeartbeats 60000 in
theorem b_even {u : Nat → Int32} : (u (0 : Int32).toNatClampNeg &&& (1 : Int32)) = 0 ↔ V u 8 % 2 = 0 := by
  rw [show (0 : Int32).toNatClampNeg = 0 by decide, V_low, ← u_and1]
  constructor
  · intro h; rw [h]; rfl
  · intro h; exact U_inj (by rw [h]; rfl)
def iR (a m x u : Nat) : Prop := x < m ∧ ∃ k : Int, (x : Int) * a = u + m * k
def cp (u v : Nat) : Prop := ∀ d, d ∣ u → d ∣ v → d = 1
def iJ (a m u v x y : Nat) : Prop := 1 ≤ u ∧ 1 ≤ v ∧ cp u v ∧ iR a m x u ∧ iR a m y v
set_option maxHeartbeats 60000 in
theorem iR_h {A m h k : Int} (hm : m = 2 * h + 1) (e : 2 * A = m * k) : A = m * (A - h * k) := by grind
set_option maxHeartbeats 60000 in
theorem iR_0 {a m x u : Nat} (hm : m % 2 = 1) (h : iR a m x u) (hu : u % 2 = 0) (hx : x % 2 = 0) : iR a m (x / 2) (u / 2) := by
  obtain ⟨h1, k, e⟩ := h
  refine ⟨by omega, ((x / 2 : Nat) : Int) * a - (u / 2 : Nat) - (m / 2 : Nat) * k, ?_⟩
  have hx2 : (x : Int) = 2 * (x / 2 : Nat) := by omega
  have hu2 : (u : Int) = 2 * (u / 2 : Nat) := by omega
  have hm2 : (m : Int) = 2 * (m / 2 : Nat) + 1 := by omega
  rw [hx2, hu2] at e
  have := iR_h (A := ((x / 2 : Nat) : Int) * a - (u / 2 : Nat)) (k := k) hm2 (by generalize ((x / 2 : Nat) : Int) = X at *; generalize ((u / 2 : Nat) : Int) = Y at *; grind)
  generalize ((x / 2 : Nat) : Int) * a = X at *
  generalize ((m / 2 : Nat) : Int) * k = Z at *
  generalize (m : Int) * (X - (u / 2 : Nat) - Z) = T at *
  omega
set_option maxHeartbeats 60000 in
theorem iR_1 {a m x u : Nat} (hm : m % 2 = 1) (h : iR a m x u) (hu : u % 2 = 0) (hx : x % 2 = 1) : iR a m ((x + m) / 2) (u / 2) := by
  obtain ⟨h1, k, e⟩ := h
  refine ⟨by omega, (((x + m) / 2 : Nat) : Int) * a - (u / 2 : Nat) - (m / 2 : Nat) * (k + a), ?_⟩
  have hx2 : (x : Int) = 2 * ((x + m) / 2 : Nat) - m := by omega
  have hu2 : (u : Int) = 2 * (u / 2 : Nat) := by omega
  have hm2 : (m : Int) = 2 * (m / 2 : Nat) + 1 := by omega
  rw [hx2, hu2] at e
  have := iR_h (A := (((x + m) / 2 : Nat) : Int) * a - (u / 2 : Nat)) (k := k + a) hm2 (by generalize (((x + m) / 2 : Nat) : Int) = X at *; generalize ((u / 2 : Nat) : Int) = Y at *; grind)
  generalize (((x + m) / 2 : Nat) : Int) * a = X at *
  generalize ((m / 2 : Nat) : Int) * (k + a) = Z at *
  generalize (m : Int) * (X - (u / 2 : Nat) - Z) = T at *
  omega
set_option maxHeartbeats 60000 in
theorem cp_h {u v : Nat} (h : cp u v) (hu : u % 2 = 0) : cp (u / 2) v := fun d h1 h2 => h d (by
  rw [show u = 2 * (u / 2) by omega]; exact Nat.dvd_trans h1 (Nat.dvd_mul_left _ _)) h2
set_option maxHeartbeats 60000 in
theorem cp_c {u v : Nat} (h : cp u v) : cp v u := fun d h1 h2 => h d h2 h1
set_option maxHeartbeats 60000 in
theorem cp_s {u v : Nat} (h : cp u v) (hl : v ≤ u) : cp (u - v) v := fun d h1 h2 => h d (by
  rw [show u = u - v + v by omega]; exact Nat.dvd_add h1 h2) h2
set_option maxHeartbeats 60000 in
theorem cp_e {u v : Nat} (h : cp u v) (hu : u % 2 = 0) : v % 2 = 1 := by
  rcases Nat.mod_two_eq_zero_or_one v with e | e
  · have := h 2 (Nat.dvd_of_mod_eq_zero hu) (Nat.dvd_of_mod_eq_zero e)
    omega
  · exact e
set_option maxHeartbeats 60000 in
/-- a difference modulo m: the first is not the smaller, or it is -/
theorem iR_s {a m x y u v : Nat} (h1 : iR a m x u) (h2 : iR a m y v) (hl : v ≤ u) {r : Nat} (hr : r < m) (e : r + y = x ∨ r + y = x + m) : iR a m r (u - v) := by
  obtain ⟨g1, k1, e1⟩ := h1
  obtain ⟨g2, k2, e2⟩ := h2
  rcases e with e | e
  · refine ⟨hr, k1 - k2, ?_⟩
    have : (x : Int) = r + y := by omega
    have h3 : ((u - v : Nat) : Int) = u - v := by omega
    rw [h3]
    grind
  · refine ⟨hr, k1 - k2 + a, ?_⟩
    have : (x : Int) = r + y - m := by omega
    have h3 : ((u - v : Nat) : Int) = u - v := by omega
    rw [h3]
    grind
set_option maxHeartbeats 60000 in
theorem iS_1 {r b a T m : Nat} (h : r + b = a + 0 * T) (ha : a < m) : (r + b = a ∨ r + b = a + m) ∧ r < m := by omega
set_option maxHeartbeats 60000 in
theorem iS_2 {r b a T m c r2 : Nat} (hm : m < T) (h : r + b = a + 1 * T) (hb : b < m) (ha : a < m) (hr : r < T) (hc : c ≤ 1) (hr2 : r2 < T) (h2 : r2 + c * T = r + m) : (r2 + b = a ∨ r2 + b = a + m) ∧ r2 < m := by
  rcases c_01 hc with rfl | rfl
  · exact ⟨by omega, by omega⟩
  · exact ⟨by omega, by omega⟩
set_option maxHeartbeats 60000 in
theorem iH_1 {r c x m T q : Nat} (h : r + c * T = x + m) (hq : q = (r + c * T) / 2) : q = (x + m) / 2 := by rw [hq, h]
set_option maxHeartbeats 60000 in
theorem iU_1 {r v u T c : Nat} (h : r + v = u + c * T) (hc : c ≤ 1) (hl : v ≤ u) (hr : r < T) : r = u - v := by
  rcases c_01 hc with rfl | rfl <;> omega
set_option maxHeartbeats 60000 in
theorem nN_T : nN < 2 ^ 256 := by decide +kernel
set_option maxHeartbeats 60000 in
theorem pP_T : pP < 2 ^ 256 := by decide +kernel
set_option maxHeartbeats 60000 in
theorem nN_o : nN % 2 = 1 := by decide +kernel
set_option maxHeartbeats 60000 in
theorem pP_o : pP % 2 = 1 := by decide +kernel
set_option maxHeartbeats 60000 in
theorem one_ne : ¬ (1 : Int32) = 0 := by decide
set_option maxHeartbeats 60000 in
theorem h_M_s3x22 (fu : Nat) (hfu : 9 ≤ fu) (a u : Nat) (x : Nat → Int32) (hx : iR a pP (V x 8) u) (hu : u % 2 = 0) (Q : ((Nat → Int32) × (Nat → Int32) × (Nat → Int32) × (Nat → Int32) × (Nat → Int32)) → Prop) (K : (Nat → Int32) → Option ((Nat → Int32) × (Nat → Int32) × (Nat → Int32) × (Nat → Int32) × (Nat → Int32))) (hk : ∀ f, iR a pP (V f 8) (u / 2) → ok (K f) Q) (X : Option ((Nat → Int32) × (Nat → Int32) × (Nat → Int32) × (Nat → Int32) × (Nat → Int32)))
    (hX : X = if (x (0 : Int32).toNatClampNeg &&& (1 : Int32)) = 0 then bd1 (x_M_half fu (0 : Int32) x) K else bd2 (x_M_add_e10s2x22 fu x) fun v f => bd1 (x_M_half fu v f) K) : ok X Q := by
  rw [hX]
  refine ok_ite (fun h => ?_) (fun h => ?_)
  · obtain ⟨r, e, hr⟩ := v_M_half fu hfu 0 (by decide) x
    rw [show (0 : Int32) = nI 0 from rfl, e, bd1_q]
    refine hk r ?_
    rw [hr, Nat.zero_mul, Nat.add_zero]
    exact iR_0 pP_o hx hu (b_even.mp h)
  · obtain ⟨c, r, e, hc, hs⟩ := v_M_add_e10s2x22 fu hfu x
    obtain ⟨r2, e2, hr2⟩ := v_M_half fu hfu c hc r
    rw [e, bd2_q, e2, bd1_q]
    refine hk r2 ?_
    rw [V_22] at hs
    rw [iH_1 hs hr2]
    have h1 : V x 8 % 2 = 1 := by
      rcases Nat.mod_two_eq_zero_or_one (V x 8) with q | q
      · exact absurd (b_even.mpr q) h
      · exact q
    exact iR_1 pP_o hx hu h1
set_option maxHeartbeats 60000 in
theorem d_M_s3x22 (fu : Nat) (hfu : 9 ≤ fu) (a U1 V1 : Nat) (x y : Nat → Int32) (hx : iR a pP (V x 8) U1) (hy : iR a pP (V y 8) V1) (hl : V1 ≤ U1) (Q : ((Nat → Int32) × (Nat → Int32) × (Nat → Int32) × (Nat → Int32) × (Nat → Int32)) → Prop) (K : (Nat → Int32) → Option ((Nat → Int32) × (Nat → Int32) × (Nat → Int32) × (Nat → Int32) × (Nat → Int32))) (hk : ∀ f, iR a pP (V f 8) (U1 - V1) → ok (K f) Q) (X : Option ((Nat → Int32) × (Nat → Int32) × (Nat → Int32) × (Nat → Int32) × (Nat → Int32)))
    (hX : X = bd2 (x_M_sub_e10 fu y x) fun v f => if v = 0 then K f else bd2 (x_M_add_e10s2x22 fu f) fun v2 f2 => K f2) : ok X Q := by
  rw [hX]
  obtain ⟨c, r, e, hc, hs⟩ := v_M_sub_e10 fu hfu y x
  rw [e, bd2_q]
  rcases c_01 hc with rfl | rfl
  · rw [if_pos cb_i0]
    obtain ⟨g1, g2⟩ := iS_1 hs hx.1
    exact hk r (iR_s hx hy hl g2 g1)
  · rw [if_neg cb_i1]
    obtain ⟨c2, r2, e2, hc2, h2⟩ := v_M_add_e10s2x22 fu hfu r
    rw [e2, bd2_q]
    rw [V_22] at h2
    obtain ⟨g1, g2⟩ := iS_2 pP_T hs hy.1 hx.1 (V8_lt r) hc2 (V8_lt r2) h2
    exact hk r2 (iR_s hx hy hl g2 g1)
set_option maxHeartbeats 60000 in
theorem l_M_inverse_s3x22_137 (fu : Nat) (hfu : 9 ≤ fu) (z h2 : Nat → Int32) (a S : Nat) (Q : ((Nat → Int32) × (Nat → Int32) × (Nat → Int32) × (Nat → Int32) × (Nat → Int32)) → Prop) (k_57 : (Nat → Int32) → (Nat → Int32) → (Nat → Int32) → (Nat → Int32) → (Nat → Int32) → Option ((Nat → Int32) × (Nat → Int32) × (Nat → Int32) × (Nat → Int32) × (Nat → Int32)))
    (hk : ∀ u0 u1 u2 u3 u4, iJ a pP (V u0 8) (V u1 8) (V u2 8) (V u3 8) → V u0 8 + V u1 8 < S → ok (k_57 u0 u1 u2 u3 u4) Q) :
    ∀ n u0 u1 u2 u3 u4, V u1 8 < n → iJ a pP (V u0 8) (V u1 8) (V u2 8) (V u3 8) → V u0 8 + V u1 8 ≤ S → V u0 8 % 2 = 1 → (V u1 8 % 2 = 1 ∧ V u1 8 ≠ 1 ∨ V u0 8 ≠ 1) → ok (x_M_inverse_s3x22_137 fu z h2 k_57 n u0 u1 u2 u3 u4) Q := by
  intro n
  induction n with
  | zero => intro u0 u1 u2 u3 u4 h; exact absurd h (Nat.not_lt_zero _)
  | succ n ih =>
    intro u0 u1 u2 u3 u4 hn hJ hS ho hne
    show ok (xb_M_inverse_s3x22_137 fu z h2 k_57 (x_M_inverse_s3x22_137 fu z h2 k_57 n) u0 u1 u2 u3 u4) Q
    unfold xb_M_inverse_s3x22_137
    obtain ⟨j1, j2, j3, j4, j5⟩ := hJ
    refine ok_bnd (ok_ite (fun h => ?_) (fun h => ?_))
    · have hv := b_even.mp h
      obtain ⟨r, e, hr⟩ := v_M_half fu hfu 0 (by decide) u1
      rw [Nat.zero_mul, Nat.add_zero] at hr
      rw [show (0 : Int32) = nI 0 from rfl, e, bd1_q, ← show (0 : Int32) = nI 0 from rfl, bnd_q]
      have hne' : V u0 8 ≠ 1 := by
        rcases hne with q | q
        · omega
        · exact q
      refine h_M_s3x22 fu hfu a (V u1 8) u3 j5 hv Q (fun f => x_M_inverse_s3x22_137 fu z h2 k_57 n u0 r u2 f u4) (fun f hf => ?_) _ rfl
      rw [← hr] at hf
      refine ih u0 r u2 f u4 (by rw [hr]; generalize V u1 8 = q at *; omega) ⟨j1, by rw [hr]; generalize V u1 8 = q at *; omega, by rw [hr]; exact cp_c (cp_h (cp_c j3) hv), j4, hf⟩ (by rw [hr]; generalize V u1 8 = q at *; generalize V u0 8 = p at *; omega) ho (Or.inr hne')
    · have hv : V u1 8 % 2 = 1 := by
        rcases Nat.mod_two_eq_zero_or_one (V u1 8) with q | q
        · exact absurd (b_even.mpr q) h
        · exact q
      have hun : V u0 8 ≠ V u1 8 := by
        intro q
        have := j3 (V u0 8) (Nat.dvd_refl _) (by rw [q]; exact Nat.dvd_refl _)
        rcases hne with g | g
        · exact g.2 (by rw [← q]; exact this)
        · exact g this
      rw [v_M_compare fu hfu, bd1_q]
      refine ok_ite (fun hc => ?_) (fun hc => ?_)
      · have hl := (cmpN_lt _ _).mp hc
        obtain ⟨c, r, e, hc1, hs⟩ := v_M_sub_e10 fu hfu u0 u1
        have hr := iU_1 hs hc1 (Nat.le_of_lt hl) (V8_lt r)
        rw [e, bd2_q]
        refine d_M_s3x22 fu hfu a (V u1 8) (V u0 8) u3 u2 j5 j4 (Nat.le_of_lt hl) Q (fun f => k_57 u0 r u2 f u4) (fun f hf => ?_) _ rfl
        rw [← hr] at hf
        refine hk u0 r u2 f u4 ⟨j1, by rw [hr]; generalize V u1 8 = q at *; generalize V u0 8 = p at *; omega, by rw [hr]; exact cp_c (cp_s (cp_c j3) (Nat.le_of_lt hl)), j4, hf⟩ (by rw [hr]; generalize V u1 8 = q at *; generalize V u0 8 = p at *; omega)
      · have hl : V u1 8 ≤ V u0 8 := Nat.le_of_not_lt (fun q => hc ((cmpN_lt _ _).mpr q))
        obtain ⟨c, r, e, hc1, hs⟩ := v_M_sub_e10 fu hfu u1 u0
        have hr := iU_1 hs hc1 hl (V8_lt r)
        rw [e, bd2_q]
        refine d_M_s3x22 fu hfu a (V u0 8) (V u1 8) u2 u3 j4 j5 hl Q (fun f => k_57 r u1 f u3 u4) (fun f hf => ?_) _ rfl
        rw [← hr] at hf
        refine hk r u1 f u3 u4 ⟨by rw [hr]; generalize V u1 8 = q at *; generalize V u0 8 = p at *; omega, j2, by rw [hr]; exact cp_s j3 hl, hf, j5⟩ (by rw [hr]; generalize V u1 8 = q at *; generalize V u0 8 = p at *; omega)
set_option maxHeartbeats 60000 in
theorem l_M_inverse_s3x22_77 (fu : Nat) (hfu : 2 ^ 256 ≤ fu) (z h2 : Nat → Int32) (a S : Nat) (Q : ((Nat → Int32) × (Nat → Int32) × (Nat → Int32) × (Nat → Int32) × (Nat → Int32)) → Prop) (k_57 : (Nat → Int32) → (Nat → Int32) → (Nat → Int32) → (Nat → Int32) → (Nat → Int32) → Option ((Nat → Int32) × (Nat → Int32) × (Nat → Int32) × (Nat → Int32) × (Nat → Int32)))
    (hk : ∀ u0 u1 u2 u3 u4, iJ a pP (V u0 8) (V u1 8) (V u2 8) (V u3 8) → V u0 8 + V u1 8 < S → ok (k_57 u0 u1 u2 u3 u4) Q) :
    ∀ n u0 u1 u2 u3 u4, V u0 8 < n → iJ a pP (V u0 8) (V u1 8) (V u2 8) (V u3 8) → V u0 8 + V u1 8 ≤ S → V u1 8 ≠ 1 → (V u0 8 % 2 = 0 ∨ V u1 8 % 2 = 1 ∨ V u0 8 ≠ 1) → ok (x_M_inverse_s3x22_77 fu z h2 k_57 n u0 u1 u2 u3 u4) Q := by
  have h9 : 9 ≤ fu := Nat.le_trans (by decide) hfu
  intro n
  induction n with
  | zero => intro u0 u1 u2 u3 u4 h; exact absurd h (Nat.not_lt_zero _)
  | succ n ih =>
    intro u0 u1 u2 u3 u4 hn hJ hS hv1 hne
    show ok (xb_M_inverse_s3x22_77 fu z h2 k_57 (x_M_inverse_s3x22_77 fu z h2 k_57 n) u0 u1 u2 u3 u4) Q
    unfold xb_M_inverse_s3x22_77
    obtain ⟨j1, j2, j3, j4, j5⟩ := hJ
    refine ok_bnd (ok_ite (fun h => ?_) (fun h => ?_))
    · have hv := b_even.mp h
      obtain ⟨r, e, hr⟩ := v_M_half fu h9 0 (by decide) u0
      rw [Nat.zero_mul, Nat.add_zero] at hr
      rw [show (0 : Int32) = nI 0 from rfl, e, bd1_q, ← show (0 : Int32) = nI 0 from rfl, bnd_q]
      refine h_M_s3x22 fu h9 a (V u0 8) u2 j4 hv Q (fun f => x_M_inverse_s3x22_77 fu z h2 k_57 n r u1 f u3 u4) (fun f hf => ?_) _ rfl
      rw [← hr] at hf
      refine ih r u1 f u3 u4 (by rw [hr]; generalize V u0 8 = q at *; omega) ⟨by rw [hr]; generalize V u0 8 = q at *; omega, j2, by rw [hr]; exact cp_h j3 hv, hf, j5⟩ (by rw [hr]; generalize V u1 8 = q at *; generalize V u0 8 = p at *; omega) hv1 (Or.inr (Or.inl (cp_e j3 hv)))
    · have hv : V u0 8 % 2 = 1 := by
        rcases Nat.mod_two_eq_zero_or_one (V u0 8) with q | q
        · exact absurd (b_even.mpr q) h
        · exact q
      refine l_M_inverse_s3x22_137 fu h9 z h2 a S Q k_57 hk fu u0 u1 u2 u3 u4 (Nat.lt_of_lt_of_le (V8_lt u1) hfu) ⟨j1, j2, j3, j4, j5⟩ hS hv ?_
      rcases hne with q | q | q
      · omega
      · exact Or.inl ⟨q, hv1⟩
      · exact Or.inr q
set_option maxHeartbeats 60000 in
theorem l_M_inverse_s3x22_311 (fu : Nat) (hfu : 9 ≤ fu) (z h2 : Nat → Int32) (a : Nat) (u0 u1 u2 u3 u4 : Nat → Int32) (hJ : iJ a pP (V u0 8) (V u1 8) (V u2 8) (V u3 8)) (h1 : V u0 8 = 1 ∨ V u1 8 = 1) : ok (xb_M_inverse_s3x22_311 fu z h2 u0 u1 u2 u3 u4) (fun r => iR a pP (V r.2.2.2.2 8) 1) := by
  unfold xb_M_inverse_s3x22_311
  obtain ⟨j1, j2, j3, j4, j5⟩ := hJ
  rw [v_M_isOne fu hfu, bd1_q]
  by_cases h : V u0 8 = 1
  · rw [if_pos h]
    obtain ⟨r, e, hr⟩ := v_M_copy fu u2 u4
    refine ok_f one_ne ?_
    rw [e, bd1_q]
    refine ok_some ?_
    show iR a pP (V r 8) 1
    rw [V_c hr, ← h]
    exact j4
  · rw [if_neg h]
    obtain ⟨r, e, hr⟩ := v_M_copy fu u3 u4
    refine ok_t rfl ?_
    rw [e, bd1_q]
    refine ok_some ?_
    show iR a pP (V r 8) 1
    have h2 : V u1 8 = 1 := by
      rcases h1 with q | q
      · exact absurd q h
      · exact q
    rw [V_c hr, ← h2]
    exact j5
set_option maxHeartbeats 60000 in
theorem l_M_inverse_s3x22_57 (fu : Nat) (hfu : 2 ^ 256 ≤ fu) (z h2 : Nat → Int32) (a : Nat) :
    ∀ n u0 u1 u2 u3 u4, V u0 8 + V u1 8 < n → iJ a pP (V u0 8) (V u1 8) (V u2 8) (V u3 8) → ok (x_M_inverse_s3x22_57 fu z h2 n u0 u1 u2 u3 u4) (fun r => iR a pP (V r.2.2.2.2 8) 1) := by
  have h9 : 9 ≤ fu := Nat.le_trans (by decide) hfu
  intro n
  induction n with
  | zero => intro u0 u1 u2 u3 u4 h; exact absurd h (Nat.not_lt_zero _)
  | succ n ih =>
    intro u0 u1 u2 u3 u4 hn hJ
    show ok (xb_M_inverse_s3x22_57 fu z h2 (x_M_inverse_s3x22_57 fu z h2 n) u0 u1 u2 u3 u4) _
    unfold xb_M_inverse_s3x22_57
    rw [v_M_isOne fu h9, bd1_q]
    by_cases g0 : V u0 8 = 1
    · rw [if_pos g0]
      exact ok_f one_ne (l_M_inverse_s3x22_311 fu h9 z h2 a u0 u1 u2 u3 u4 hJ (Or.inl g0))
    · rw [if_neg g0, v_M_isOne fu h9, bd1_q]
      refine ok_t rfl ?_
      by_cases g1 : V u1 8 = 1
      · rw [if_pos g1]
        exact ok_f one_ne (l_M_inverse_s3x22_311 fu h9 z h2 a u0 u1 u2 u3 u4 hJ (Or.inr g1))
      · rw [if_neg g1]
        refine ok_t rfl ?_
        exact l_M_inverse_s3x22_77 fu hfu z h2 a (V u0 8 + V u1 8) _ _ (fun w0 w1 w2 w3 w4 hw hs => ih w0 w1 w2 w3 w4 (by omega) hw) fu u0 u1 u2 u3 u4 (Nat.lt_of_lt_of_le (V8_lt u0) hfu) hJ (Nat.le_refl _) g1 (Or.inr (Or.inr g0))
set_option maxHeartbeats 60000 in
theorem v_M_inverse_s3x22 (fu : Nat) (hfu : 2 ^ 257 ≤ fu) (z h2 u0 u1 u2 u3 u4 : Nat → Int32) (h0 : 1 ≤ V h2 8) (hc : cp (V h2 8) pP) : ok (x_M_inverse_s3x22 fu z h2 u0 u1 u2 u3 u4) (fun r => iR (V h2 8) pP (V r.2.2.2.2 8) 1) := by
  have h8 : 2 ^ 256 ≤ fu := Nat.le_trans (by decide) hfu
  have h9 : 9 ≤ fu := Nat.le_trans (by decide) hfu
  unfold x_M_inverse_s3x22
  obtain ⟨f1, e1, hf1⟩ := v_M_copy fu h2 u0
  obtain ⟨f2, e2, hf2⟩ := v_M_copy_s1x22 fu u1
  rw [e1, bd1_q, e2, bd1_q]
  have hz : ∀ r i x y n, i + r = 8 → r < n → (∀ j, j < i → x j = if j = 0 then 1 else 0) → (∀ j, j < i → y j = 0) → ok (x_M_inverse_s3x22_19 fu z h2 n (nI i) f1 f2 x y u4) (fun r => iR (V h2 8) pP (V r.2.2.2.2 8) 1) := by
    intro r
    induction r with
    | zero =>
      intro i x y n hi hn hx hy
      obtain ⟨n, rfl⟩ : ∃ m, n = m + 1 := ⟨n - 1, by omega⟩
      have e : i = 8 := by omega
      subst e
      show ok (xb_M_inverse_s3x22_19 fu z h2 (x_M_inverse_s3x22_19 fu z h2 n) (nI 8) f1 f2 x y u4) _
      unfold xb_M_inverse_s3x22_19
      refine ok_t (show (8 : Int32) ≤ nI 8 from by decide) ?_
      have k1 : V f1 8 = V h2 8 := V_c hf1
      have k2 : V f2 8 = pP := by rw [V_c hf2]; exact V_22
      have k3 : V x 8 = 1 := (V_1 x 7).mpr ⟨hx 0 (by decide), fun j a b => by rw [hx j b, if_neg (by omega)]⟩
      have k4 : V y 8 = 0 := (V_0 y 8).mpr hy
      refine l_M_inverse_s3x22_57 fu h8 z h2 (V h2 8) fu f1 f2 x y u4 ?_ ?_
      · have q1 := V8_lt f1
        have q2 := V8_lt f2
        generalize V f1 8 = A at *
        generalize V f2 8 = B at *
        have q3 : 2 ^ 257 = 2 ^ 256 + 2 ^ 256 := by decide
        omega
      · rw [k1, k2, k3, k4]
        refine ⟨h0, by decide +kernel, hc, ⟨by decide +kernel, 0, ?_⟩, ⟨by decide +kernel, -1, ?_⟩⟩
        · generalize V h2 8 = q
          omega
        · generalize pP = q
          omega
    | succ r ih =>
      intro i x y n hi hn hx hy
      obtain ⟨n, rfl⟩ : ∃ m, n = m + 1 := ⟨n - 1, by omega⟩
      show ok (xb_M_inverse_s3x22_19 fu z h2 (x_M_inverse_s3x22_19 fu z h2 n) (nI i) f1 f2 x y u4) _
      unfold xb_M_inverse_s3x22_19
      have key : ∀ y0 : Int32, y0 = (if i = 0 then 1 else 0) → ok (xb_M_inverse_s3x22_42 fu z h2 (x_M_inverse_s3x22_19 fu z h2 n) (nI i) y0 (nI i) f1 f2 x y u4) (fun r => iR (V h2 8) pP (V r.2.2.2.2 8) 1) := by
        intro y0 hy0
        unfold xb_M_inverse_s3x22_42
        refine ok_gd (inb_nI (by omega) (by decide)) (ok_bnd (ok_gd (inb_nI (by omega) (by decide)) (ok_bnd (ok_bnd ?_))))
        rw [nI_clamp (n := i) (by omega), nI_1]
        refine ih (i + 1) _ _ n (by omega) (by omega) (fun j hj => ?_) (fun j hj => ?_)
        · by_cases c : j = i
          · rw [c, pk_us, hy0]
          · rw [pk_un c]; exact hx j (by omega)
        · by_cases c : j = i
          · rw [c, pk_us]
          · rw [pk_un c]; exact hy j (by omega)
      refine ok_f (show ¬ (8 : Int32) ≤ nI i from nI_ge (b := 8) (by omega) (by decide)) ?_
      by_cases c : i = 0
      · exact ok_t (by rw [c]; exact nI_0) (key _ (by rw [if_pos c]))
      · exact ok_f (nI_ne0 (by omega) (by omega)) (key _ (by rw [if_neg c]))
  exact hz 8 0 u2 u3 fu (by omega) (by omega) (fun j hj => absurd hj (Nat.not_lt_zero _)) (fun j hj => absurd hj (Nat.not_lt_zero _))
set_option maxHeartbeats 60000 in
theorem h_M_s3x23 (fu : Nat) (hfu : 9 ≤ fu) (a u : Nat) (x : Nat → Int32) (hx : iR a nN (V x 8) u) (hu : u % 2 = 0) (Q : ((Nat → Int32) × (Nat → Int32) × (Nat → Int32) × (Nat → Int32) × (Nat → Int32)) → Prop) (K : (Nat → Int32) → Option ((Nat → Int32) × (Nat → Int32) × (Nat → Int32) × (Nat → Int32) × (Nat → Int32))) (hk : ∀ f, iR a nN (V f 8) (u / 2) → ok (K f) Q) (X : Option ((Nat → Int32) × (Nat → Int32) × (Nat → Int32) × (Nat → Int32) × (Nat → Int32)))
    (hX : X = if (x (0 : Int32).toNatClampNeg &&& (1 : Int32)) = 0 then bd1 (x_M_half fu (0 : Int32) x) K else bd2 (x_M_add_e10s2x23 fu x) fun v f => bd1 (x_M_half fu v f) K) : ok X Q := by
  rw [hX]
  refine ok_ite (fun h => ?_) (fun h => ?_)
  · obtain ⟨r, e, hr⟩ := v_M_half fu hfu 0 (by decide) x
    rw [show (0 : Int32) = nI 0 from rfl, e, bd1_q]
    refine hk r ?_
    rw [hr, Nat.zero_mul, Nat.add_zero]
    exact iR_0 nN_o hx hu (b_even.mp h)
  · obtain ⟨c, r, e, hc, hs⟩ := v_M_add_e10s2x23 fu hfu x
    obtain ⟨r2, e2, hr2⟩ := v_M_half fu hfu c hc r
    rw [e, bd2_q, e2, bd1_q]
    refine hk r2 ?_
    rw [V_23] at hs
    rw [iH_1 hs hr2]
    have h1 : V x 8 % 2 = 1 := by
      rcases Nat.mod_two_eq_zero_or_one (V x 8) with q | q
      · exact absurd (b_even.mpr q) h
      · exact q
    exact iR_1 nN_o hx hu h1
set_option maxHeartbeats 60000 in
theorem d_M_s3x23 (fu : Nat) (hfu : 9 ≤ fu) (a U1 V1 : Nat) (x y : Nat → Int32) (hx : iR a nN (V x 8) U1) (hy : iR a nN (V y 8) V1) (hl : V1 ≤ U1) (Q : ((Nat → Int32) × (Nat → Int32) × (Nat → Int32) × (Nat → Int32) × (Nat → Int32)) → Prop) (K : (Nat → Int32) → Option ((Nat → Int32) × (Nat → Int32) × (Nat → Int32) × (Nat → Int32) × (Nat → Int32))) (hk : ∀ f, iR a nN (V f 8) (U1 - V1) → ok (K f) Q) (X : Option ((Nat → Int32) × (Nat → Int32) × (Nat → Int32) × (Nat → Int32) × (Nat → Int32)))
    (hX : X = bd2 (x_M_sub_e10 fu y x) fun v f => if v = 0 then K f else bd2 (x_M_add_e10s2x23 fu f) fun v2 f2 => K f2) : ok X Q := by
  rw [hX]
  obtain ⟨c, r, e, hc, hs⟩ := v_M_sub_e10 fu hfu y x
  rw [e, bd2_q]
  rcases c_01 hc with rfl | rfl
  · rw [if_pos cb_i0]
    obtain ⟨g1, g2⟩ := iS_1 hs hx.1
    exact hk r (iR_s hx hy hl g2 g1)
  · rw [if_neg cb_i1]
    obtain ⟨c2, r2, e2, hc2, h2⟩ := v_M_add_e10s2x23 fu hfu r
    rw [e2, bd2_q]
    rw [V_23] at h2
    obtain ⟨g1, g2⟩ := iS_2 nN_T hs hy.1 hx.1 (V8_lt r) hc2 (V8_lt r2) h2
    exact hk r2 (iR_s hx hy hl g2 g1)
set_option maxHeartbeats 60000 in
theorem l_M_inverse_s3x23_137 (fu : Nat) (hfu : 9 ≤ fu) (z h2 : Nat → Int32) (a S : Nat) (Q : ((Nat → Int32) × (Nat → Int32) × (Nat → Int32) × (Nat → Int32) × (Nat → Int32)) → Prop) (k_57 : (Nat → Int32) → (Nat → Int32) → (Nat → Int32) → (Nat → Int32) → (Nat → Int32) → Option ((Nat → Int32) × (Nat → Int32) × (Nat → Int32) × (Nat → Int32) × (Nat → Int32)))
    (hk : ∀ u0 u1 u2 u3 u4, iJ a nN (V u0 8) (V u1 8) (V u2 8) (V u3 8) → V u0 8 + V u1 8 < S → ok (k_57 u0 u1 u2 u3 u4) Q) :
    ∀ n u0 u1 u2 u3 u4, V u1 8 < n → iJ a nN (V u0 8) (V u1 8) (V u2 8) (V u3 8) → V u0 8 + V u1 8 ≤ S → V u0 8 % 2 = 1 → (V u1 8 % 2 = 1 ∧ V u1 8 ≠ 1 ∨ V u0 8 ≠ 1) → ok (x_M_inverse_s3x23_137 fu z h2 k_57 n u0 u1 u2 u3 u4) Q := by
  intro n
  induction n with
  | zero => intro u0 u1 u2 u3 u4 h; exact absurd h (Nat.not_lt_zero _)
  | succ n ih =>
    intro u0 u1 u2 u3 u4 hn hJ hS ho hne
    show ok (xb_M_inverse_s3x23_137 fu z h2 k_57 (x_M_inverse_s3x23_137 fu z h2 k_57 n) u0 u1 u2 u3 u4) Q
    unfold xb_M_inverse_s3x23_137
    obtain ⟨j1, j2, j3, j4, j5⟩ := hJ
    refine ok_bnd (ok_ite (fun h => ?_) (fun h => ?_))
    · have hv := b_even.mp h
      obtain ⟨r, e, hr⟩ := v_M_half fu hfu 0 (by decide) u1
      rw [Nat.zero_mul, Nat.add_zero] at hr
      rw [show (0 : Int32) = nI 0 from rfl, e, bd1_q, ← show (0 : Int32) = nI 0 from rfl, bnd_q]
      have hne' : V u0 8 ≠ 1 := by
        rcases hne with q | q
        · omega
        · exact q
      refine h_M_s3x23 fu hfu a (V u1 8) u3 j5 hv Q (fun f => x_M_inverse_s3x23_137 fu z h2 k_57 n u0 r u2 f u4) (fun f hf => ?_) _ rfl
      rw [← hr] at hf
      refine ih u0 r u2 f u4 (by rw [hr]; generalize V u1 8 = q at *; omega) ⟨j1, by rw [hr]; generalize V u1 8 = q at *; omega, by rw [hr]; exact cp_c (cp_h (cp_c j3) hv), j4, hf⟩ (by rw [hr]; generalize V u1 8 = q at *; generalize V u0 8 = p at *; omega) ho (Or.inr hne')
    · have hv : V u1 8 % 2 = 1 := by
        rcases Nat.mod_two_eq_zero_or_one (V u1 8) with q | q
        · exact absurd (b_even.mpr q) h
        · exact q
      have hun : V u0 8 ≠ V u1 8 := by
        intro q
        have := j3 (V u0 8) (Nat.dvd_refl _) (by rw [q]; exact Nat.dvd_refl _)
        rcases hne with g | g
        · exact g.2 (by rw [← q]; exact this)
        · exact g this
      rw [v_M_compare fu hfu, bd1_q]
      refine ok_ite (fun hc => ?_) (fun hc => ?_)
      · have hl := (cmpN_lt _ _).mp hc
        obtain ⟨c, r, e, hc1, hs⟩ := v_M_sub_e10 fu hfu u0 u1
        have hr := iU_1 hs hc1 (Nat.le_of_lt hl) (V8_lt r)
        rw [e, bd2_q]
        refine d_M_s3x23 fu hfu a (V u1 8) (V u0 8) u3 u2 j5 j4 (Nat.le_of_lt hl) Q (fun f => k_57 u0 r u2 f u4) (fun f hf => ?_) _ rfl
        rw [← hr] at hf
        refine hk u0 r u2 f u4 ⟨j1, by rw [hr]; generalize V u1 8 = q at *; generalize V u0 8 = p at *; omega, by rw [hr]; exact cp_c (cp_s (cp_c j3) (Nat.le_of_lt hl)), j4, hf⟩ (by rw [hr]; generalize V u1 8 = q at *; generalize V u0 8 = p at *; omega)
      · have hl : V u1 8 ≤ V u0 8 := Nat.le_of_not_lt (fun q => hc ((cmpN_lt _ _).mpr q))
        obtain ⟨c, r, e, hc1, hs⟩ := v_M_sub_e10 fu hfu u1 u0
        have hr := iU_1 hs hc1 hl (V8_lt r)
        rw [e, bd2_q]
        refine d_M_s3x23 fu hfu a (V u0 8) (V u1 8) u2 u3 j4 j5 hl Q (fun f => k_57 r u1 f u3 u4) (fun f hf => ?_) _ rfl
        rw [← hr] at hf
        refine hk r u1 f u3 u4 ⟨by rw [hr]; generalize V u1 8 = q at *; generalize V u0 8 = p at *; omega, j2, by rw [hr]; exact cp_s j3 hl, hf, j5⟩ (by rw [hr]; generalize V u1 8 = q at *; generalize V u0 8 = p at *; omega)
set_option maxHeartbeats 60000 in
theorem l_M_inverse_s3x23_77 (fu : Nat) (hfu : 2 ^ 256 ≤ fu) (z h2 : Nat → Int32) (a S : Nat) (Q : ((Nat → Int32) × (Nat → Int32) × (Nat → Int32) × (Nat → Int32) × (Nat → Int32)) → Prop) (k_57 : (Nat → Int32) → (Nat → Int32) → (Nat → Int32) → (Nat → Int32) → (Nat → Int32) → Option ((Nat → Int32) × (Nat → Int32) × (Nat → Int32) × (Nat → Int32) × (Nat → Int32)))
    (hk : ∀ u0 u1 u2 u3 u4, iJ a nN (V u0 8) (V u1 8) (V u2 8) (V u3 8) → V u0 8 + V u1 8 < S → ok (k_57 u0 u1 u2 u3 u4) Q) :
    ∀ n u0 u1 u2 u3 u4, V u0 8 < n → iJ a nN (V u0 8) (V u1 8) (V u2 8) (V u3 8) → V u0 8 + V u1 8 ≤ S → V u1 8 ≠ 1 → (V u0 8 % 2 = 0 ∨ V u1 8 % 2 = 1 ∨ V u0 8 ≠ 1) → ok (x_M_inverse_s3x23_77 fu z h2 k_57 n u0 u1 u2 u3 u4) Q := by
  have h9 : 9 ≤ fu := Nat.le_trans (by decide) hfu
  intro n
  induction n with
  | zero => intro u0 u1 u2 u3 u4 h; exact absurd h (Nat.not_lt_zero _)
  | succ n ih =>
    intro u0 u1 u2 u3 u4 hn hJ hS hv1 hne
    show ok (xb_M_inverse_s3x23_77 fu z h2 k_57 (x_M_inverse_s3x23_77 fu z h2 k_57 n) u0 u1 u2 u3 u4) Q
    unfold xb_M_inverse_s3x23_77
    obtain ⟨j1, j2, j3, j4, j5⟩ := hJ
    refine ok_bnd (ok_ite (fun h => ?_) (fun h => ?_))
    · have hv := b_even.mp h
      obtain ⟨r, e, hr⟩ := v_M_half fu h9 0 (by decide) u0
      rw [Nat.zero_mul, Nat.add_zero] at hr
      rw [show (0 : Int32) = nI 0 from rfl, e, bd1_q, ← show (0 : Int32) = nI 0 from rfl, bnd_q]
      refine h_M_s3x23 fu h9 a (V u0 8) u2 j4 hv Q (fun f => x_M_inverse_s3x23_77 fu z h2 k_57 n r u1 f u3 u4) (fun f hf => ?_) _ rfl
      rw [← hr] at hf
      refine ih r u1 f u3 u4 (by rw [hr]; generalize V u0 8 = q at *; omega) ⟨by rw [hr]; generalize V u0 8 = q at *; omega, j2, by rw [hr]; exact cp_h j3 hv, hf, j5⟩ (by rw [hr]; generalize V u1 8 = q at *; generalize V u0 8 = p at *; omega) hv1 (Or.inr (Or.inl (cp_e j3 hv)))
    · have hv : V u0 8 % 2 = 1 := by
        rcases Nat.mod_two_eq_zero_or_one (V u0 8) with q | q
        · exact absurd (b_even.mpr q) h
        · exact q
      refine l_M_inverse_s3x23_137 fu h9 z h2 a S Q k_57 hk fu u0 u1 u2 u3 u4 (Nat.lt_of_lt_of_le (V8_lt u1) hfu) ⟨j1, j2, j3, j4, j5⟩ hS hv ?_
      rcases hne with q | q | q
      · omega
      · exact Or.inl ⟨q, hv1⟩
      · exact Or.inr q
set_option maxHeartbeats 60000 in
theorem l_M_inverse_s3x23_311 (fu : Nat) (hfu : 9 ≤ fu) (z h2 : Nat → Int32) (a : Nat) (u0 u1 u2 u3 u4 : Nat → Int32) (hJ : iJ a nN (V u0 8) (V u1 8) (V u2 8) (V u3 8)) (h1 : V u0 8 = 1 ∨ V u1 8 = 1) : ok (xb_M_inverse_s3x23_311 fu z h2 u0 u1 u2 u3 u4) (fun r => iR a nN (V r.2.2.2.2 8) 1) := by
  unfold xb_M_inverse_s3x23_311
  obtain ⟨j1, j2, j3, j4, j5⟩ := hJ
  rw [v_M_isOne fu hfu, bd1_q]
  by_cases h : V u0 8 = 1
  · rw [if_pos h]
    obtain ⟨r, e, hr⟩ := v_M_copy fu u2 u4
    refine ok_f one_ne ?_
    rw [e, bd1_q]
    refine ok_some ?_
    show iR a nN (V r 8) 1
    rw [V_c hr, ← h]
    exact j4
  · rw [if_neg h]
    obtain ⟨r, e, hr⟩ := v_M_copy fu u3 u4
    refine ok_t rfl ?_
    rw [e, bd1_q]
    refine ok_some ?_
    show iR a nN (V r 8) 1
    have h2 : V u1 8 = 1 := by
      rcases h1 with q | q
      · exact absurd q h
      · exact q
    rw [V_c hr, ← h2]
    exact j5
set_option maxHeartbeats 60000 in
theorem l_M_inverse_s3x23_57 (fu : Nat) (hfu : 2 ^ 256 ≤ fu) (z h2 : Nat → Int32) (a : Nat) :
    ∀ n u0 u1 u2 u3 u4, V u0 8 + V u1 8 < n → iJ a nN (V u0 8) (V u1 8) (V u2 8) (V u3 8) → ok (x_M_inverse_s3x23_57 fu z h2 n u0 u1 u2 u3 u4) (fun r => iR a nN (V r.2.2.2.2 8) 1) := by
  have h9 : 9 ≤ fu := Nat.le_trans (by decide) hfu
  intro n
  induction n with
  | zero => intro u0 u1 u2 u3 u4 h; exact absurd h (Nat.not_lt_zero _)
  | succ n ih =>
    intro u0 u1 u2 u3 u4 hn hJ
    show ok (xb_M_inverse_s3x23_57 fu z h2 (x_M_inverse_s3x23_57 fu z h2 n) u0 u1 u2 u3 u4) _
    unfold xb_M_inverse_s3x23_57
    rw [v_M_isOne fu h9, bd1_q]
    by_cases g0 : V u0 8 = 1
    · rw [if_pos g0]
      exact ok_f one_ne (l_M_inverse_s3x23_311 fu h9 z h2 a u0 u1 u2 u3 u4 hJ (Or.inl g0))
    · rw [if_neg g0, v_M_isOne fu h9, bd1_q]
      refine ok_t rfl ?_
      by_cases g1 : V u1 8 = 1
      · rw [if_pos g1]
        exact ok_f one_ne (l_M_inverse_s3x23_311 fu h9 z h2 a u0 u1 u2 u3 u4 hJ (Or.inr g1))
      · rw [if_neg g1]
        refine ok_t rfl ?_
        exact l_M_inverse_s3x23_77 fu hfu z h2 a (V u0 8 + V u1 8) _ _ (fun w0 w1 w2 w3 w4 hw hs => ih w0 w1 w2 w3 w4 (by omega) hw) fu u0 u1 u2 u3 u4 (Nat.lt_of_lt_of_le (V8_lt u0) hfu) hJ (Nat.le_refl _) g1 (Or.inr (Or.inr g0))
set_option maxHeartbeats 60000 in
theorem v_M_inverse_s3x23 (fu : Nat) (hfu : 2 ^ 257 ≤ fu) (z h2 u0 u1 u2 u3 u4 : Nat → Int32) (h0 : 1 ≤ V h2 8) (hc : cp (V h2 8) nN) : ok (x_M_inverse_s3x23 fu z h2 u0 u1 u2 u3 u4) (fun r => iR (V h2 8) nN (V r.2.2.2.2 8) 1) := by
  have h8 : 2 ^ 256 ≤ fu := Nat.le_trans (by decide) hfu
  have h9 : 9 ≤ fu := Nat.le_trans (by decide) hfu
  unfold x_M_inverse_s3x23
  obtain ⟨f1, e1, hf1⟩ := v_M_copy fu h2 u0
  obtain ⟨f2, e2, hf2⟩ := v_M_copy_s1x23 fu u1
  rw [e1, bd1_q, e2, bd1_q]
  have hz : ∀ r i x y n, i + r = 8 → r < n → (∀ j, j < i → x j = if j = 0 then 1 else 0) → (∀ j, j < i → y j = 0) → ok (x_M_inverse_s3x23_19 fu z h2 n (nI i) f1 f2 x y u4) (fun r => iR (V h2 8) nN (V r.2.2.2.2 8) 1) := by
    intro r
    induction r with
    | zero =>
      intro i x y n hi hn hx hy
      obtain ⟨n, rfl⟩ : ∃ m, n = m + 1 := ⟨n - 1, by omega⟩
      have e : i = 8 := by omega
      subst e
      show ok (xb_M_inverse_s3x23_19 fu z h2 (x_M_inverse_s3x23_19 fu z h2 n) (nI 8) f1 f2 x y u4) _
      unfold xb_M_inverse_s3x23_19
      refine ok_t (show (8 : Int32) ≤ nI 8 from by decide) ?_
      have k1 : V f1 8 = V h2 8 := V_c hf1
      have k2 : V f2 8 = nN := by rw [V_c hf2]; exact V_23
      have k3 : V x 8 = 1 := (V_1 x 7).mpr ⟨hx 0 (by decide), fun j a b => by rw [hx j b, if_neg (by omega)]⟩
      have k4 : V y 8 = 0 := (V_0 y 8).mpr hy
      refine l_M_inverse_s3x23_57 fu h8 z h2 (V h2 8) fu f1 f2 x y u4 ?_ ?_
      · have q1 := V8_lt f1
        have q2 := V8_lt f2
        generalize V f1 8 = A at *
        generalize V f2 8 = B at *
        have q3 : 2 ^ 257 = 2 ^ 256 + 2 ^ 256 := by decide
        omega
      · rw [k1, k2, k3, k4]
        refine ⟨h0, by decide +kernel, hc, ⟨by decide +kernel, 0, ?_⟩, ⟨by decide +kernel, -1, ?_⟩⟩
        · generalize V h2 8 = q
          omega
        · generalize nN = q
          omega
    | succ r ih =>
      intro i x y n hi hn hx hy
      obtain ⟨n, rfl⟩ : ∃ m, n = m + 1 := ⟨n - 1, by omega⟩
      show ok (xb_M_inverse_s3x23_19 fu z h2 (x_M_inverse_s3x23_19 fu z h2 n) (nI i) f1 f2 x y u4) _
      unfold xb_M_inverse_s3x23_19
      have key : ∀ y0 : Int32, y0 = (if i = 0 then 1 else 0) → ok (xb_M_inverse_s3x23_42 fu z h2 (x_M_inverse_s3x23_19 fu z h2 n) (nI i) y0 (nI i) f1 f2 x y u4) (fun r => iR (V h2 8) nN (V r.2.2.2.2 8) 1) := by
        intro y0 hy0
        unfold xb_M_inverse_s3x23_42
        refine ok_gd (inb_nI (by omega) (by decide)) (ok_bnd (ok_gd (inb_nI (by omega) (by decide)) (ok_bnd (ok_bnd ?_))))
        rw [nI_clamp (n := i) (by omega), nI_1]
        refine ih (i + 1) _ _ n (by omega) (by omega) (fun j hj => ?_) (fun j hj => ?_)
        · by_cases c : j = i
          · rw [c, pk_us, hy0]
          · rw [pk_un c]; exact hx j (by omega)
        · by_cases c : j = i
          · rw [c, pk_us]
          · rw [pk_un c]; exact hy j (by omega)
      refine ok_f (show ¬ (8 : Int32) ≤ nI i from nI_ge (b := 8) (by omega) (by decide)) ?_
      by_cases c : i = 0
      · exact ok_t (by rw [c]; exact nI_0) (key _ (by rw [if_pos c]))
      · exact ok_f (nI_ne0 (by omega) (by omega)) (key _ (by rw [if_neg c]))
  exact hz 8 0 u2 u3 fu (by omega) (by omega) (fun j hj => absurd hj (Nat.not_lt_zero _)) (fun j hj => absurd hj (Nat.not_lt_zero _))
