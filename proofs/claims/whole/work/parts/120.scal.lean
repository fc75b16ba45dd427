-- bytes into limbs
set_option maxHeartbeats 200000 in
theorem by_l (x : Int32) : x.toInt64 &&& (255 : Int64) = lN (By x) := by
  apply l_inj
  have h1 : (x.toInt64 &&& (255 : Int64)).toBitVec.toNat = (x.toBitVec.signExtend 64).toNat &&& (2 ^ 8 - 1) := rfl
  have hb := By_lt x
  rw [h1, Nat.and_two_pow_sub_one_eq_mod, lN_nat (by omega), BitVec.toNat_signExtend]
  unfold By U
  have := x.toBitVec.isLt
  rw [BitVec.toNat_setWidth]
  split <;> omega
set_option maxHeartbeats 200000 in
theorem shl_n : ∀ k, k < 64 → (((nI k).toInt64 &&& 63).toBitVec.smod 64).toNat = k := by decide
/-- the state of load: p bytes are in -/
def lI (h : Nat → Int32) (a n p : Nat) (K b l : Nat) (u : Nat → Int64) : Prop :=
  8 * p = 52 * l + b ∧ b < 52 ∧ K < 2 ^ b ∧ nm u l ∧ Wv u l + (K : Int) * 2 ^ (52 * l) = (beN h (a + n - p) p : Nat)
set_option maxHeartbeats 200000 in
theorem be_s {h : Nat → Int32} {a n p : Nat} (hp : p < n) : beN h (a + n - (p + 1)) (p + 1) = By (h (a + (n - 1 - p))) * 256 ^ p + beN h (a + n - p) p := by
  have e := beN_add h (a + n - (p + 1)) 1 p
  rw [show 1 + p = p + 1 by omega, show a + n - (p + 1) + 1 = a + n - p by omega, beN_1, show a + n - (p + 1) = a + (n - 1 - p) by omega] at e
  rw [show a + n - (p + 1) = a + (n - 1 - p) by omega]
  exact e
set_option maxHeartbeats 200000 in
theorem lI_a {h : Nat → Int32} {a n p K b l : Nat} {u : Nat → Int64} (hp : p < n) (hI : lI h a n p K b l u) : Wv u l + ((K + By (h (a + (n - 1 - p))) * 2 ^ b : Nat) : Int) * 2 ^ (52 * l) = (beN h (a + n - (p + 1)) (p + 1) : Nat) := by
  obtain ⟨h1, h2, h3, h4, h5⟩ := hI
  rw [be_s hp, Int.natCast_add, Int.natCast_add, Int.add_mul, ← h5]
  have e : ((By (h (a + (n - 1 - p))) * 256 ^ p : Nat) : Int) = ((By (h (a + (n - 1 - p))) * 2 ^ b : Nat) : Int) * 2 ^ (52 * l) := by
    rw [p256, h1, Nat.pow_add, Nat.mul_comm (2 ^ (52 * l)), ← Nat.mul_assoc, Int.natCast_mul _ (2 ^ (52 * l)), Int.natCast_pow]
    rfl
  rw [e]
  omega
set_option maxHeartbeats 200000 in
theorem kb_lt {K b B : Nat} (hK : K < 2 ^ b) (hB : B < 256) : K + B * 2 ^ b < 2 ^ (b + 8) := by
  rw [Nat.pow_add]
  have : B * 2 ^ b ≤ 255 * 2 ^ b := Nat.mul_le_mul_right _ (by omega)
  generalize 2 ^ b = X at *
  generalize B * X = Y at *
  omega
set_option maxHeartbeats 200000 in
theorem l_Sc_load77 (fu n0 : Nat) (h0 : Nat → Int32) : ∀ r l n (K : Int64) u, l + r = 5 → r < n → nm u l → 0 ≤ K.toInt ∧ K.toInt < 2 ^ 52 → ok (x_Sc_load_77 fu n0 h0 n K (nI l) u) (fun u' => nm u' 5 ∧ (0 < r → Wv u' 5 = Wv u l + K.toInt * 2 ^ (52 * l)) ∧ (r = 0 → u' = u)) := by
  intro r
  induction r with
  | zero =>
    intro l n K u hl hn hu hK
    obtain ⟨n, rfl⟩ : ∃ m, n = m + 1 := ⟨n - 1, by omega⟩
    have e : l = 5 := by omega
    subst e
    show ok (xb_Sc_load_77 fu n0 h0 (x_Sc_load_77 fu n0 h0 n) K (nI 5) u) _
    unfold xb_Sc_load_77
    exact ok_t (show (5 : Int32) ≤ nI 5 from by decide) (ok_some ⟨hu, fun q => absurd q (Nat.lt_irrefl _), fun _ => rfl⟩)
  | succ r ih =>
    intro l n K u hl hn hu hK
    obtain ⟨n, rfl⟩ : ∃ m, n = m + 1 := ⟨n - 1, by omega⟩
    show ok (xb_Sc_load_77 fu n0 h0 (x_Sc_load_77 fu n0 h0 n) K (nI l) u) _
    unfold xb_Sc_load_77
    refine ok_f (show ¬ (5 : Int32) ≤ nI l from nI_ge (b := 5) (by omega) (by decide)) (ok_gd (inb_nI (by omega) (by decide)) (ok_bnd (ok_bnd ?_)))
    rw [nI_clamp (n := l) (by omega), nI_1]
    have hu' : nm (vp_updL u l K) (l + 1) := by
      intro i hi
      by_cases e : i = l
      · rw [e, pk_uLs]; exact hK
      · rw [pk_uLn e]; exact hu i (by omega)
    refine ok_mono (ih (l + 1) n 0 (vp_updL u l K) (by omega) (by omega) hu' ⟨by decide, by decide⟩) (fun u' q => ⟨q.1, fun _ => ?_, fun q => absurd q (by omega)⟩)
    have e1 : Wv (vp_updL u l K) (l + 1) = Wv u l + K.toInt * 2 ^ (52 * l) := by rw [Wv_s, Wv_u _ _ _ _ (Nat.le_refl _), pk_uLs]
    rcases Nat.eq_zero_or_pos r with g | g
    · rw [q.2.2 g, ← e1]
      congr 1
      omega
    · rw [q.2.1 g, e1, show (0 : Int64).toInt = 0 from rfl, Int.zero_mul, Int.add_zero]
set_option maxHeartbeats 200000 in
theorem l_Sc_load14 (fu n0 : Nat) (hfu : 40 ≤ fu) (hn0 : n0 < 2 ^ 31) (h : Nat → Int32) {a n : Nat} (hn : n ≤ 32) (ha : a + n ≤ n0) : ∀ i p K b l u m, p + i = n → i < m → lI h a n p K b l u → ok (x_Sc_load_14 fu n0 h m (nI a) (lN K) (nI b) (nI l) (nI i + (-1)) u) (fun u => nv u (beN h a n)) := by
  intro i
  induction i with
  | zero =>
    intro p K b l u m hp hm hI
    obtain ⟨m, rfl⟩ : ∃ q, m = q + 1 := ⟨m - 1, by omega⟩
    show ok (xb_Sc_load_14 fu n0 h (x_Sc_load_14 fu n0 h m) (nI a) (lN K) (nI b) (nI l) (nI 0 + (-1)) u) _
    unfold xb_Sc_load_14
    refine ok_t (by decide) ?_
    obtain ⟨h1, h2, h3, h4, h5⟩ := hI
    have hK : K < 2 ^ 52 := Nat.lt_of_lt_of_le h3 (Nat.pow_le_pow_right (by decide) (by omega))
    have hl5 : l < 5 := by omega
    refine ok_mono (l_Sc_load77 fu n0 h (5 - l) l fu (lN K) u (by omega) (by omega) h4 (by rw [pk_lT (by omega)]; omega)) (fun u' q => ⟨q.1, ?_⟩)
    rw [q.2.1 (by omega), pk_lT (by omega), h5, show a + n - p = a by omega, show p = n by omega]
  | succ i ih =>
    intro p K b l u m hp hm hI
    obtain ⟨m, rfl⟩ : ∃ q, m = q + 1 := ⟨m - 1, by omega⟩
    rw [pk_m1]
    show ok (xb_Sc_load_14 fu n0 h (x_Sc_load_14 fu n0 h m) (nI a) (lN K) (nI b) (nI l) (nI i) u) _
    unfold xb_Sc_load_14
    have hv := lI_a (by omega) hI
    obtain ⟨h1, h2, h3, h4, h5⟩ := hI
    have hB := By_lt (h (a + (n - 1 - p)))
    have ei : n - 1 - p = i := by omega
    rw [ei] at hv hB
    have hk := kb_lt h3 hB
    have hk2 : K + By (h (a + i)) * 2 ^ b < 2 ^ 60 := Nat.lt_of_lt_of_le hk (Nat.pow_le_pow_right (by decide) (by omega))
    refine ok_f (nI_pos (by omega)) (ok_bnd ?_)
    rw [nI_add]
    refine ok_gd (inb_nI (by omega) hn0) (ok_bnd (ok_bnd (ok_bnd (ok_bnd (ok_bnd ?_)))))
    rw [nI_clamp (n := a + i) (by omega), by_l, lN_shl (k := b) _ (shl_n b (by omega)), lN_or h3 (by rw [Nat.add_comm]; exact Nat.lt_trans hk2 (by decide)), show nI b + (8 : Int32) = nI (b + 8) from nI_add b 8]
    by_cases hb : b + 8 < 52
    · refine ok_t (show nI (b + 8) < (52 : Int32) from nI_lt (b := 52) hb (by decide)) ?_
      unfold xb_Sc_load_71
      exact ok_bnd (ih (p + 1) _ (b + 8) l u m (by omega) (by omega) ⟨by omega, hb, hk, h4, hv⟩)
    · refine ok_f (show ¬ nI (b + 8) < (52 : Int32) from nI_nlt (b := 52) (by omega) (by omega)) ?_
      have hl5 : l < 5 := by omega
      refine ok_bnd (ok_gd (inb_nI hl5 (by decide)) (ok_bnd (ok_bnd (ok_bnd (ok_bnd ?_)))))
      unfold xb_Sc_load_71
      rw [nI_clamp (n := l) (by omega), nI_1, show nI (b + 8) + (-52 : Int32) = nI (b + 8 - 52) by
        have e : nI (b + 8) = nI (b + 8 - 52) + nI 52 := by rw [nI_add]; congr 1; omega
        rw [e]
        show nI (b + 8 - 52) + 52 + -52 = _
        grind]
      generalize hT : K + By (h (a + i)) * 2 ^ b = T at *
      have es : lN T >>> ((52 : Int32).toInt64 &&& 63) = lN (T / 2 ^ 52) := by
        apply Int64.toInt_inj.mp
        rw [l_s52, pk_lT (by omega), pk_lT (by omega)]
        omega
      rw [es]
      refine ok_bnd (ih (p + 1) (T / 2 ^ 52) (b + 8 - 52) (l + 1) _ m (by omega) (by omega) ⟨by omega, by omega, ?_, ?_, ?_⟩)
      · have : 2 ^ (b + 8) = 2 ^ 52 * 2 ^ (b + 8 - 52) := by rw [← Nat.pow_add]; congr 1; omega
        rw [this] at hk
        exact Nat.div_lt_of_lt_mul hk
      · intro j hj
        by_cases e : j = l
        · rw [e, pk_uLs, l_52, pk_lT (by omega)]
          omega
        · rw [pk_uLn e]; exact h4 j (by omega)
      · rw [Wv_s, Wv_u _ _ _ _ (Nat.le_refl _), pk_uLs, l_52, pk_lT (by omega), p52_s, ← hv]
        have e : ((T : Nat) : Int) * 2 ^ (52 * l) = ((T : Int) % 2 ^ 52) * 2 ^ (52 * l) + ((T / 2 ^ 52 : Nat) : Int) * (2 ^ 52 * 2 ^ (52 * l)) := by
          rw [← Int.mul_assoc, ← Int.add_mul]
          congr 1
          omega
        rw [e]
        omega
set_option maxHeartbeats 200000 in
theorem v_Sc_load (fu n0 : Nat) (hfu : 40 ≤ fu) (hn0 : n0 < 2 ^ 31) (h : Nat → Int32) {a n : Nat} (hn : n ≤ 32) (ha : a + n ≤ n0) (w : Nat → Int64) : ok (x_Sc_load fu n0 h (nI a) (nI n) w) (fun u => nv u (beN h a n)) := by
  unfold x_Sc_load
  have e : nI n - (1 : Int32) = nI n + (-1) := by grind
  rw [e]
  exact ok_bnd (l_Sc_load14 fu n0 hfu hn0 h hn ha n 0 0 0 0 w fu (by omega) (by omega) ⟨by omega, by decide, by decide, fun i hi => absurd hi (Nat.not_lt_zero _), by rw [show ((0 : Nat) : Int) = 0 from rfl, Int.zero_mul]; rfl⟩)
set_option maxHeartbeats 200000 in
theorem nv_lt {w : Nat → Int64} {v : Nat} (h : nv w v) : v < 2 ^ 260 := by
  have := (Wv_nm h.1).2
  rw [h.2] at this
  have e : (2 : Int) ^ (52 * 5) = ((2 ^ 260 : Nat) : Int) := by decide
  rw [e] at this
  omega
set_option maxHeartbeats 200000 in
theorem v_Si_readNumber (fu n0 : Nat) (hfu : 40 ≤ fu) (hn0 : n0 < 2 ^ 31) (h : Nat → Int32) {a n : Nat} (ha : a + n ≤ n0) (w : Nat → Int64) : ok (x_Si_readNumber fu n0 h (nI a) (nI n) w) (fun r => (r.1 = 0 ∧ ¬ scS h a n) ∨ (r.1 = 1 ∧ scS h a n ∧ nv r.2 (beN h a n))) := by
  have key : ∀ z, z ≤ 1 → (z = 1 ↔ (0 < n ∧ h a = 0)) → ok (xb_Si_readNumber_15 fu n0 h (nI a) (nI n) (nI z) w) (fun r => (r.1 = 0 ∧ ¬ scS h a n) ∨ (r.1 = 1 ∧ scS h a n ∧ nv r.2 (beN h a n))) := by
    intro z hz hz1
    have hzn : z ≤ n := by
      rcases c_01 hz with rfl | rfl
      · omega
      · have := (hz1.mp rfl).1
        omega
    unfold xb_Si_readNumber_15
    rw [pk_sub hzn, nI_add]
    have hval : beN h (a + z) (n - z) = beN h a n := by
      rcases c_01 hz with rfl | rfl
      · rfl
      · have := beN_add h a 1 (n - 1)
        rw [show 1 + (n - 1) = n by omega] at this
        have h1 : beN h a 1 = 0 := by rw [beN_1, (hz1.mp rfl).2]; rfl
        rw [this, h1, Nat.zero_mul, Nat.zero_add]
    have hlen : n - z ≤ 32 ↔ (n ≤ 32 ∨ (n = 33 ∧ h a = 0)) := by
      rcases c_01 hz with rfl | rfl
      · constructor
        · intro g; exact Or.inl (by omega)
        · intro g
          rcases g with g | g
          · omega
          · have := hz1.mpr ⟨by omega, g.2⟩
            omega
      · have := (hz1.mp rfl).2
        constructor
        · intro g
          by_cases e : n ≤ 32
          · exact Or.inl e
          · exact Or.inr ⟨by omega, this⟩
        · intro g
          rcases g with g | g <;> omega
    by_cases g : n - z ≤ 32
    · refine ok_bnd (ok_t (show nI (n - z) ≤ (32 : Int32) from nI_le (b := 32) g (by decide)) (ok_bnd (ok_bnd ?_)))
      refine ok_bd1 (v_Sc_load fu n0 hfu hn0 h g (a := a + z) (by omega) w) (fun f q => ?_)
      rw [hval] at q
      rw [v_Sc_isZero fu f q, bd1_q]
      by_cases g0 : beN h a n = 0
      · rw [if_pos g0]
        exact ok_f one_ne (ok_some (Or.inl ⟨rfl, fun s => by have := s.2.1; omega⟩))
      · rw [if_neg g0]
        refine ok_t rfl ?_
        rw [v_Sc_compare_s1x4 fu (by omega) f (nv_nm q), bd1_q, q.2, W_4]
        refine ok_ite (fun g1 => ok_some (Or.inl ⟨rfl, fun s => ?_⟩)) (fun g1 => ok_some (Or.inr ⟨rfl, ⟨hlen.mp g, Nat.pos_of_ne_zero g0, ?_⟩, q⟩))
        · have := (cmpI_ge _ _).mp g1
          have := s.2.2
          omega
        · have : ¬ (nN : Int) ≤ (beN h a n : Nat) := fun e => g1 ((cmpI_ge _ _).mpr e)
          omega
    · exact ok_bnd (ok_f (show ¬ nI (n - z) ≤ (32 : Int32) from nI_ge (a := 32) (by omega) (by omega)) (ok_some (Or.inl ⟨rfl, fun s => g (hlen.mpr s.1)⟩)))
  unfold x_Si_readNumber
  by_cases h0 : n = 0
  · subst h0
    refine ok_t (show nI 0 ≤ 0 from by decide) ?_
    unfold xb_Si_readNumber_14
    exact key 0 (by decide) ⟨fun q => absurd q (by decide), fun q => absurd q.1 (Nat.lt_irrefl _)⟩
  · refine ok_f (nI_nle (by omega) (by omega)) (ok_gd (inb_nI (by omega) hn0) (ok_bnd ?_))
    rw [nI_clamp (n := a) (by omega)]
    refine ok_ite (fun g => ?_) (fun g => ?_)
    · exact key 1 (by decide) ⟨fun _ => ⟨by omega, g⟩, fun _ => rfl⟩
    · unfold xb_Si_readNumber_14
      exact key 0 (by decide) ⟨fun q => absurd q (by decide), fun q => absurd q.2 g⟩
