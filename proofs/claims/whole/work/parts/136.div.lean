-- divide
set_option maxHeartbeats 400000 in
theorem m_lfw {n : Nat} {q : Nat → Nat} {C : Nat → va_E} {M : Mm} {K : Mm → Prop} {w : va_W} (hM : Rg n q C M) (hq : Ij n q) (C' : Nat → va_E) (ks : List Nat) (hw : w = ks.map fun k => (q k, C' k)) (h1 : ∀ k, k ∈ ks → k < n ∧ k ≠ 29) (h2 : ∀ k, k < n ∧ k ≠ 29 → k ∉ ks → C' k = C k) (hK : ∀ M', Rg n q C' M' → fr n q M M' → K M') : bnd (mov M w) K := by
  subst hw
  exact m_lf hM hq C' ks h1 h2 hK
set_option maxHeartbeats 400000 in
theorem sg_5 {q : Nat → Nat} {cy : Nat → ClassId} {n1 : Nat} {R : Nat → Nat → Option Nat} {L : Nat → Nat → Int64} {B : Nat → Nat → Int32} {M : Mm} (hM : Rg 103 q (sgC q cy n1 R L B) M) {k : Nat} (h1 : 8 ≤ k) (h2 : k < 18) : mat M (q k) (.inl (cy 2, 5, .inr (.inl (L k)))) := by
  rw [← sgC_5 (q := q) (n1 := n1) (R := R) (B := B) h1 h2]
  exact hM k (by omega)
/-- x s = u e modulo n -/
def dR (s e u x : Nat) : Prop := ∃ k : Int, (x : Int) * s = (u : Int) * e + (nN : Int) * k
set_option maxHeartbeats 400000 in
theorem dR_half {s e u x x' t : Nat} (h : dR s e (2 * u) x) (hx : 2 * x' = x + nN * t) : dR s e u x' := by
  obtain ⟨k, hk⟩ := h
  have ho := nN_odd
  obtain ⟨m, hm⟩ : ∃ m : Int, (nN : Int) = 2 * m + 1 := ⟨((nN / 2 : Nat) : Int), by omega⟩
  have h1 : 2 * ((x' : Int) * s - u * e) = (nN : Int) * (k + t * s) := by
    have hx' : 2 * (x' : Int) = x + nN * t := by
      have := congrArg (fun n : Nat => (n : Int)) hx
      simpa using this
    have h2 : ((2 * u : Nat) : Int) = 2 * (u : Int) := by omega
    rw [h2] at hk
    generalize (x' : Int) = X' at *
    generalize (x : Int) = X at *
    generalize (s : Int) = S at *
    generalize (u : Int) = U' at *
    generalize (e : Int) = E' at *
    generalize (t : Int) = T' at *
    generalize (nN : Int) = N' at *
    grind
  generalize hA : (x' : Int) * s - u * e = A at *
  generalize hK : k + t * s = K at *
  refine ⟨A - m * K, ?_⟩
  have h3 : K = 2 * (A - m * K) := by
    rw [hm, Int.add_mul, Int.one_mul, Int.mul_assoc] at h1
    generalize m * K = Q at *
    omega
  have h4 : 2 * A = 2 * ((nN : Int) * (A - m * K)) := by
    rw [h1]
    conv => lhs; rw [h3]
    generalize A - m * K = Z
    grind
  have h5 : A = (nN : Int) * (A - m * K) := by
    generalize (nN : Int) * (A - m * K) = Z at *
    omega
  rw [← h5]
  omega
set_option maxHeartbeats 400000 in
theorem dR_sub {s e u v x y : Nat} (hu : dR s e u x) (hv : dR s e v y) (hy : y < nN) (hl : v ≤ u) : dR s e (u - v) ((x + (nN - y)) % nN) := by
  obtain ⟨k, hk⟩ := hu
  obtain ⟨l, hl'⟩ := hv
  have h1 := Nat.div_add_mod (x + (nN - y)) nN
  obtain ⟨d, hd⟩ : ∃ d, d = (x + (nN - y)) / nN := ⟨_, rfl⟩
  rw [← hd] at h1
  generalize (x + (nN - y)) % nN = z at *
  have h2 : (z : Int) = x - y + nN * (1 - d) := by
    have h3 := congrArg (fun n : Nat => (n : Int)) h1
    simp only [Int.natCast_add, Int.natCast_mul, Int.ofNat_sub (Nat.le_of_lt hy)] at h3
    generalize (nN : Int) = N' at *
    grind
  refine ⟨k - l + (1 - d) * s, ?_⟩
  rw [h2, Int.ofNat_sub hl]
  generalize (nN : Int) = N' at *
  grind
set_option maxHeartbeats 400000 in
theorem dR_e {s e x : Nat} (hx : x < nN) (h : dR s e 1 x) : dvN e s x := by
  refine ⟨hx, ?_⟩
  obtain ⟨k, hk⟩ := h
  have h1 : ((x * s : Nat) : Int) % (nN : Int) = (e : Int) % (nN : Int) := by
    rw [Int.natCast_mul, hk]
    rw [Int.add_mul_emod_self_left]
    congr 1
    omega
  have h2 : ((x * s % nN : Nat) : Int) = ((e % nN : Nat) : Int) := by
    rw [Int.natCast_emod, Int.natCast_emod]
    exact h1
  exact Int.ofNat_inj.mp h2
def dvI (s e : Nat) (u v x y : Nat) : Prop := v % 2 = 1 ∧ Nat.Coprime u v ∧ x < nN ∧ y < nN ∧ dR s e u x ∧ dR s e v y ∧ u < 2 ^ 256 ∧ v < 2 ^ 256
def kD (kt : Nat) (L L' : Nat → Nat → Int64) : Prop := ∀ k, ¬ (13 ≤ k ∧ k < 17) → k ≠ kt → L' k = L k
set_option maxHeartbeats 400000 in
theorem cpy5 {f g : Nat → Int64} (j : Nat) (hj : j < 5) : va_cpy f g (0 : Int32).toNatClampNeg (0 : Int32).toNatClampNeg (5 : Int32).toNatClampNeg j = f j := by
  show (if 0 ≤ j ∧ j < 0 + 5 then f (0 + (j - 0)) else g j) = f j
  rw [if_pos ⟨Nat.zero_le _, by omega⟩, Nat.zero_add, Nat.sub_zero]
set_option maxHeartbeats 400000 in
theorem nv_c {f g : Nat → Int64} {v : Nat} (e : ∀ j, j < 5 → g j = f j) (h : nv f v) : nv g v := by
  refine ⟨fun i hi => by rw [e i hi]; exact h.1 i hi, ?_⟩
  rw [← h.2, Wv_5, Wv_5, e 0 (by decide), e 1 (by decide), e 2 (by decide), e 3 (by decide), e 4 (by decide)]
set_option maxHeartbeats 400000 in
theorem l_dv86 (fu : Nat) (hfu : 1200 ≤ fu) (MC MS : Nat) (cy : Nat → ClassId) (ad : Nat → Nat) (mi : Nat) (q : Nat → Nat) (hq : Ij 103 q) (n1 : Nat) (R : Nat → Nat → Option Nat) (hR : sgQ q R) (κ σ : Nat) (B : Nat → Nat → Int32) (L0 : Nat → Nat → Int64) (M0 : Mm) (Φ : Mm → Prop) {kt s e : Nat} (hkt : kt = 11 ∨ kt = 12) (hΦ : ∀ L M y, Rg 103 q (sgC q cy n1 R L B) M → fr 103 q M0 M → kD kt L0 L → nv (L kt) y → dvN e s y → Φ M) : ∀ r i n t ku kv kx ky L M u v x y, i + r = 1100 → r < n → ((ku = 13 ∧ kv = 14 ∧ kx = 15 ∧ ky = 16) ∨ (ku = 14 ∧ kv = 13 ∧ kx = 16 ∧ ky = 15)) → Rg 103 q (sgC q cy n1 R L B) M → fr 103 q M0 M → kD kt L0 L → nv (L ku) u → nv (L kv) v → nv (L kx) x → nv (L ky) y → dvI s e u v x y → u * v < 2 ^ t → 2 * t + u % 2 ≤ r → xw_mSi_divide_86 fu MC MS cy ad mi Φ n κ σ M (q kt) (q ku) (q kv) (q kx) (q ky) (nI i) := by
  intro r
  induction r with
  | zero =>
    intro i n t ku kv kx ky L M u v x y hi hn hk hM hfr hkD nu nv' nx ny hI ht hr
    obtain ⟨n, rfl⟩ : ∃ m, n = m + 1 := ⟨n - 1, by omega⟩
    have : i = 1100 := by omega
    subst this
    have t0 : t = 0 := by omega
    subst t0
    have hv0 : 0 < v := by have := hI.1; omega
    have u0 : u = 0 := by
      rcases Nat.eq_zero_or_pos u with g | g
      · exact g
      · have := Nat.mul_pos g hv0
        omega
    subst u0
    have v1 : v = 1 := by
      have := hI.2.1
      rwa [Nat.coprime_zero_left] at this
    show xv_mSi_divide_86 fu MC MS cy ad mi Φ (xw_mSi_divide_86 fu MC MS cy ad mi Φ n) κ σ M (q kt) (q ku) (q kv) (q kx) (q ky) (nI 1100)
    unfold xv_mSi_divide_86 xv_mSi_divide_173
    refine m_t (by decide) ?_
    refine m_cj hM hq (a := ky) (b := kt) (n0 := 5) (n1 := 5) (by omega) (by omega) (sgC_5 (by omega) (by omega)) (sgC_5 (by omega) (by omega)) (by decide) (sgC q cy n1 R (va_up L kt (va_cpy (L ky) (L kt) (0 : Int32).toNatClampNeg (0 : Int32).toNatClampNeg (5 : Int32).toNatClampNeg)) B) (by rw [sgC_5 (by omega) (by omega), up_e]) (fun j _ hn => sgC_c (up_n hn) rfl) (fun M1 hM1 hf1 => ?_)
    rw [v1] at hI
    exact hΦ _ M1 y hM1 (fr_t hfr hf1) (fun k k1 k2 => by rw [up_n k2]; exact hkD k k1 k2) (by rw [up_e]; exact nv_c (fun j hj => cpy5 j hj) ny) (dR_e hI.2.2.2.1 hI.2.2.2.2.2.1)
  | succ r ih =>
    intro i n t ku kv kx ky L M u v x y hi hn hk hM hfr hkD nu nv' nx ny hI ht hr
    obtain ⟨n, rfl⟩ : ∃ m, n = m + 1 := ⟨n - 1, by omega⟩
    obtain ⟨hv2, hcp, hx, hy, du, dv, hu256, hv256⟩ := hI
    have hv0 : 0 < v := by omega
    show xv_mSi_divide_86 fu MC MS cy ad mi Φ (xw_mSi_divide_86 fu MC MS cy ad mi Φ n) κ σ M (q kt) (q ku) (q kv) (q kx) (q ky) (nI i)
    unfold xv_mSi_divide_86
    refine m_f (show ¬ (1100 : Int32) ≤ nI i from nI_ge (b := 1100) (by omega) (by decide)) ?_
    refine ⟨_, mal_c (sg_5 hM (by omega) (by omega)) (mal_n _), mnd_q hq [ku] (fun k hk => by simp at hk; omega) (by simp), _, v_Sc_isZero fu (L ku) nu, ?_⟩
    refine m_lfw hM hq (sgC q cy n1 R L B) [ku] (by simp only [List.map_cons, List.map_nil]; rw [sgC_5 (by omega) (by omega)]) (fun k hk => by simp at hk; omega) (fun _ _ _ => rfl) (fun M1 hM1 hf1 => ?_)
    by_cases hu0 : u = 0
    · subst hu0
      have v1 : v = 1 := by rwa [Nat.coprime_zero_left] at hcp
      unfold xv_mSi_divide_173
      refine m_f (by decide) ?_
      refine m_cj hM1 hq (a := ky) (b := kt) (n0 := 5) (n1 := 5) (by omega) (by omega) (sgC_5 (by omega) (by omega)) (sgC_5 (by omega) (by omega)) (by decide) (sgC q cy n1 R (va_up L kt (va_cpy (L ky) (L kt) (0 : Int32).toNatClampNeg (0 : Int32).toNatClampNeg (5 : Int32).toNatClampNeg)) B) (by rw [sgC_5 (by omega) (by omega), up_e]) (fun j _ hn => sgC_c (up_n hn) rfl) (fun M2 hM2 hf2 => ?_)
      rw [v1] at dv
      exact hΦ _ M2 y hM2 (fr_t hfr (fr_t hf1 hf2)) (fun k k1 k2 => by rw [up_n k2]; exact hkD k k1 k2) (by rw [up_e]; exact nv_c (fun j hj => cpy5 j hj) ny) (dR_e hy dv)
    have hup : 0 < u := Nat.pos_of_ne_zero hu0
    refine m_t (by rw [if_neg hu0]) ?_
    refine m_aj (sg_5 hM1 (k := ku) (by omega) (by omega)) (by decide) (m_bv fun v5 e5 => ?_)
    replace e5 : v5 = L ku 0 &&& 1 := e5
    have i5 : v5.toInt = (u : Int) % 2 := by rw [e5, l_a1, ← nv_low nu]; rfl
    have t1 : 1 ≤ t := by
      rcases Nat.eq_zero_or_pos t with g | g
      · rw [g] at ht
        have := Nat.mul_pos hup hv0
        omega
      · exact g
    obtain ⟨t', rfl⟩ : ∃ t', t = t' + 1 := ⟨t - 1, by omega⟩
    by_cases hu2 : u % 2 = 0
    · refine m_t ((lg_0 _).1.mpr (by rw [i5]; omega)) ?_
      obtain ⟨f, ef, hf⟩ := v_Sc_halve fu (by omega) (L ku) nu
      refine ⟨_, mal_c (sg_5 hM1 (by omega) (by omega)) (mal_n _), mnd_q hq [ku] (fun k hk => by simp at hk; omega) (by simp), f, ef, ?_⟩
      refine m_lfw hM1 hq (sgC q cy n1 R (va_up L ku f) B) [ku] (by simp only [List.map_cons, List.map_nil]; rw [sgC_5 (by omega) (by omega), up_e]) (fun k hk => by simp at hk; omega) (fun k hk hn => sgC_c (up_n (fun e => hn (by simp [e]))) rfl) (fun M2 hM2 hf2 => ?_)
      obtain ⟨g, eg, hg⟩ := v_Sc_halveModulo fu (by omega) (L kx) nx hx
      refine ⟨_, mal_c (by rw [← up_n (f := L) (k := ku) (j := kx) (v := f) (by omega)]; exact sg_5 hM2 (by omega) (by omega)) (mal_n _), mnd_q hq [kx] (fun k hk => by simp at hk; omega) (by simp), g, eg, ?_⟩
      refine m_lfw hM2 hq (sgC q cy n1 R (va_up (va_up L ku f) kx g) B) [kx] (by simp only [List.map_cons, List.map_nil]; rw [sgC_5 (by omega) (by omega), up_e]) (fun k hk => by simp at hk; omega) (fun k hk hn => sgC_c (up_n (fun e => hn (by simp [e]))) rfl) (fun M3 hM3 hf3 => ?_)
      unfold xv_mSi_divide_167
      refine m_b ?_
      rw [nI_1]
      have u2 : u = 2 * (u / 2) := by omega
      have xo : ∃ t, 2 * (if x % 2 = 0 then x / 2 else (x + nN) / 2) = x + nN * t := by
        have := nN_odd
        by_cases g : x % 2 = 0
        · rw [if_pos g]; exact ⟨0, by omega⟩
        · rw [if_neg g]; exact ⟨1, by omega⟩
      have xl : (if x % 2 = 0 then x / 2 else (x + nN) / 2) < nN := by
        by_cases g : x % 2 = 0
        · rw [if_pos g]; omega
        · rw [if_neg g]; omega
      refine ih (i + 1) n t' ku kv kx ky _ M3 (u / 2) v _ y (by omega) (by omega) hk hM3 (fr_t hfr (fr_t hf1 (fr_t hf2 hf3))) (fun k k1 k2 => by rw [up_n (by omega), up_n (by omega)]; exact hkD k k1 k2) (by rw [up_n (by omega), up_e]; exact hf) (by rw [up_n (by omega), up_n (by omega)]; exact nv') (by rw [up_e]; exact hg) (by rw [up_n (by omega), up_n (by omega)]; exact ny) ⟨hv2, ?_, xl, hy, ?_, dv, by omega, hv256⟩ ?_ ?_
      · rw [u2] at hcp
        exact Nat.Coprime.coprime_mul_left hcp
      · obtain ⟨t2, ht2⟩ := xo
        rw [u2] at du
        exact dR_half du ht2
      · rw [Nat.pow_succ] at ht
        have h2 : 2 * (u / 2 * v) < 2 ^ t' * 2 := by rw [← Nat.mul_assoc, ← u2]; exact ht
        generalize u / 2 * v = X at *
        generalize 2 ^ t' = Y at *
        omega
      · omega
    · refine m_f (fun e => hu2 (by have := (lg_0 _).1.mp e; rw [i5] at this; omega)) ?_
      refine ⟨_, _, mal_c (sg_5 hM1 (by omega) (by omega)) (mal_c (sg_5 hM1 (by omega) (by omega)) (mal_n _)), mnd_q hq [ku, kv] (fun k hk => by simp at hk; omega) (by simp; omega), _, v_Sc_compare fu (by omega) (L ku) (L kv) (nv_nm nu) (nv_nm nv'), ?_⟩
      refine m_lfw hM1 hq (sgC q cy n1 R L B) [ku, kv] (by simp only [List.map_cons, List.map_nil]; rw [sgC_5 (by omega) (by omega), sgC_5 (by omega) (by omega)]) (fun k hk => by simp at hk; omega) (fun _ _ _ => rfl) (fun M2 hM2 hf2 => ?_)
      -- the greater one less the smaller one
      have step : ∀ ku kv kx ky u v x y, ((ku = 13 ∧ kv = 14 ∧ kx = 15 ∧ ky = 16) ∨ (ku = 14 ∧ kv = 13 ∧ kx = 16 ∧ ky = 15)) → nv (L ku) u → nv (L kv) v → nv (L kx) x → nv (L ky) y → v % 2 = 1 → u % 2 = 1 → Nat.Coprime u v → x < nN → y < nN → dR s e u x → dR s e v y → u < 2 ^ 256 → v < 2 ^ 256 → v ≤ u → u * v < 2 ^ (t' + 1) → xv_mSi_divide_154 fu MC MS cy ad mi Φ (xw_mSi_divide_86 fu MC MS cy ad mi Φ n) κ σ M2 (q kt) (q ku) (q kv) (q kx) (q ky) (nI i) := by
        intro ku kv kx ky u v x y hk nu nv' nx ny hv2 hu2' hcp hx hy du dv hu256 hv256 hle ht
        unfold xv_mSi_divide_154
        obtain ⟨f, ef, hf⟩ := v_Sc_subtract fu (by omega) (L kv) (L ku) (nv_sb nu) (nv_sb nv')
        have hf' : nv f (u - v) := nv_of hf.2 (by rw [hf.1, nu.2, nv'.2]; omega) (Nat.lt_of_le_of_lt (Nat.sub_le _ _) (Nat.lt_trans hu256 (by decide)))
        refine ⟨_, _, mal_c (sg_5 hM2 (by omega) (by omega)) (mal_c (sg_5 hM2 (by omega) (by omega)) (mal_n _)), mnd_q hq [ku, kv] (fun k hk => by simp at hk; omega) (by simp; omega), f, ef, ?_⟩
        refine m_lfw hM2 hq (sgC q cy n1 R (va_up L ku f) B) [ku, kv] (by simp only [List.map_cons, List.map_nil]; rw [sgC_5 (by omega) (by omega), sgC_5 (by omega) (by omega), up_e, up_n (by omega)]) (fun k hk => by simp at hk; omega) (fun k hk hn => sgC_c (up_n (fun e => hn (by simp [e]))) rfl) (fun M3 hM3 hf3 => ?_)
        obtain ⟨g, eg, hg⟩ := v_Sc_subtractModulo fu (by omega) (L ky) (L kx) nx ny hx hy
        refine ⟨_, _, mal_c (by rw [← up_n (f := L) (k := ku) (j := kx) (v := f) (by omega)]; exact sg_5 hM3 (by omega) (by omega)) (mal_c (by rw [← up_n (f := L) (k := ku) (j := ky) (v := f) (by omega)]; exact sg_5 hM3 (by omega) (by omega)) (mal_n _)), mnd_q hq [kx, ky] (fun k hk => by simp at hk; omega) (by simp; omega), g, eg, ?_⟩
        refine m_lfw hM3 hq (sgC q cy n1 R (va_up (va_up L ku f) kx g) B) [kx, ky] (by simp only [List.map_cons, List.map_nil]; rw [sgC_5 (by omega) (by omega), sgC_5 (by omega) (by omega), up_e, up_n (j := ky) (by omega), up_n (j := ky) (by omega)]) (fun k hk => by simp at hk; omega) (fun k hk hn => sgC_c (up_n (fun e => hn (by simp [e]))) rfl) (fun M4 hM4 hf4 => ?_)
        unfold xv_mSi_divide_167
        refine m_b ?_
        rw [nI_1]
        refine ih (i + 1) n (t' + 1) ku kv kx ky _ M4 (u - v) v _ y (by omega) (by omega) hk hM4 (fr_t hfr (fr_t hf1 (fr_t hf2 (fr_t hf3 hf4)))) (fun k k1 k2 => by rw [up_n (by omega), up_n (by omega)]; exact hkD k k1 k2) (by rw [up_n (by omega), up_e]; exact hf') (by rw [up_n (by omega), up_n (by omega)]; exact nv') (by rw [up_e]; exact hg) (by rw [up_n (by omega), up_n (by omega)]; exact ny) ⟨hv2, ?_, Nat.mod_lt _ (Nat.lt_trans (by decide) nN_pr.1), hy, dR_sub du dv hy hle, dv, by omega, hv256⟩ ?_ ?_
        · show Nat.gcd (u - v) v = 1
          rw [Nat.gcd_sub_right_left_of_dvd v hle (Nat.dvd_refl v)]
          exact hcp
        · exact Nat.lt_of_le_of_lt (Nat.mul_le_mul_right v (Nat.sub_le u v)) ht
        · omega
      rw [nu.2, nv'.2]
      refine m_if (fun g => ?_) (fun g => ?_)
      · have g := Int.ofNat_le.mp ((cmpI_ge _ _).mp g)
        exact step ku kv kx ky u v x y hk nu nv' nx ny hv2 (by omega) hcp hx hy du dv hu256 hv256 g ht
      · have g : ¬ v ≤ u := fun q => g ((cmpI_ge _ _).mpr (Int.ofNat_le.mpr q))
        exact step kv ku ky kx v u y x (by omega) nv' nu ny nx (by omega) hv2 hcp.symm hy hx dv du hv256 hu256 (by omega) (by rw [Nat.mul_comm]; exact ht)
set_option maxHeartbeats 400000 in
theorem l_dv34 (fu : Nat) (hfu : 1200 ≤ fu) (MC MS : Nat) (cy : Nat → ClassId) (ad : Nat → Nat) (mi : Nat) (q : Nat → Nat) (hq : Ij 103 q) (n1 : Nat) (R : Nat → Nat → Option Nat) (hR : sgQ q R) (κ σ : Nat) (B : Nat → Nat → Int32) (L0 : Nat → Nat → Int64) (M0 : Mm) (Φ : Mm → Prop) {k1 kt : Nat} (hk1 : k1 = 8 ∨ k1 = 10) (hkt : kt = 11 ∨ kt = 12) (hΦ : ∀ L M, Rg 103 q (sgC q cy n1 R L B) M → fr 103 q M0 M → kD kt L0 L → (∀ j, j < 5 → L 13 j = L0 9 j ∧ L 14 j = k4 j ∧ L 15 j = L0 k1 j ∧ L 16 j = 0) → xw_mSi_divide_86 fu MC MS cy ad mi Φ fu κ σ M (q kt) (q 13) (q 14) (q 15) (q 16) (0 : Int32)) : ∀ r i n L M, i + r = 5 → r < n → Rg 103 q (sgC q cy n1 R L B) M → fr 103 q M0 M → kD kt L0 L → (∀ j, j < i → L 13 j = L0 9 j ∧ L 14 j = k4 j ∧ L 15 j = L0 k1 j ∧ L 16 j = 0) → xw_mSi_divide_34 fu MC MS cy ad mi Φ n κ σ M (q 0) (q k1) (q kt) (q 13) (q 14) (q 15) (q 16) (nI i) := by
  intro r
  induction r with
  | zero =>
    intro i n L M hi hn hM hfr hkD h
    obtain ⟨n, rfl⟩ : ∃ m, n = m + 1 := ⟨n - 1, by omega⟩
    have : i = 5 := by omega
    subst this
    show xv_mSi_divide_34 fu MC MS cy ad mi Φ (xw_mSi_divide_34 fu MC MS cy ad mi Φ n) κ σ M (q 0) (q k1) (q kt) (q 13) (q 14) (q 15) (q 16) (nI 5)
    unfold xv_mSi_divide_34
    exact m_t (by decide) (hΦ L M hM hfr hkD h)
  | succ r ih =>
    intro i n L M hi hn hM hfr hkD h
    obtain ⟨n, rfl⟩ : ∃ m, n = m + 1 := ⟨n - 1, by omega⟩
    show xv_mSi_divide_34 fu MC MS cy ad mi Φ (xw_mSi_divide_34 fu MC MS cy ad mi Φ n) κ σ M (q 0) (q k1) (q kt) (q 13) (q 14) (q 15) (q 16) (nI i)
    unfold xv_mSi_divide_34
    have hin : inb (nI i) 5 = true := inb_nI (by omega) (by decide)
    have ec : (nI i).toNatClampNeg = i := nI_clamp (n := i) (by omega)
    refine m_f (show ¬ (5 : Int32) ≤ nI i from nI_ge (b := 5) (by omega) (by decide)) (m_gr (hM 0 (by decide)) rfl (m_aj (hM 9 (by decide)) hin ?_))
    refine m_sj hM hq (k := 13) (m := 5) (f := L 13) (by decide) rfl hin (sgC q cy n1 R (va_up L 13 (vp_updL (L 13) (nI i).toNatClampNeg (L 9 (nI i).toNatClampNeg))) B) rfl (fun j _ hn => sgC_c (up_n hn) rfl) (fun M1 hM1 hf1 => ⟨hin, m_b ?_⟩)
    refine m_sj hM1 hq (k := 14) (m := 5) (f := L 14) (by decide) rfl hin (sgC q cy n1 R (va_up (va_up L 13 (vp_updL (L 13) (nI i).toNatClampNeg (L 9 (nI i).toNatClampNeg))) 14 (vp_updL (L 14) (nI i).toNatClampNeg (tb_4.getD (nI i).toNatClampNeg 0))) B) rfl (fun j _ hn => sgC_c (up_n hn) rfl) (fun M2 hM2 hf2 => ?_)
    refine m_aj (f := L k1) (by rw [← up_n (f := L) (k := 13) (j := k1) (by omega), ← up_n (f := va_up L 13 (vp_updL (L 13) (nI i).toNatClampNeg (L 9 (nI i).toNatClampNeg))) (k := 14) (j := k1) (by omega)]; exact sg_5 hM2 (by omega) (by omega)) hin ?_
    refine m_sj hM2 hq (k := 15) (m := 5) (f := L 15) (by decide) rfl hin (sgC q cy n1 R (va_up (va_up (va_up L 13 (vp_updL (L 13) (nI i).toNatClampNeg (L 9 (nI i).toNatClampNeg))) 14 (vp_updL (L 14) (nI i).toNatClampNeg (tb_4.getD (nI i).toNatClampNeg 0))) 15 (vp_updL (L 15) (nI i).toNatClampNeg (L k1 (nI i).toNatClampNeg))) B) rfl (fun j _ hn => sgC_c (up_n hn) rfl) (fun M3 hM3 hf3 => ?_)
    refine m_sj hM3 hq (k := 16) (m := 5) (f := L 16) (by decide) rfl hin (sgC q cy n1 R (va_up (va_up (va_up (va_up L 13 (vp_updL (L 13) (nI i).toNatClampNeg (L 9 (nI i).toNatClampNeg))) 14 (vp_updL (L 14) (nI i).toNatClampNeg (tb_4.getD (nI i).toNatClampNeg 0))) 15 (vp_updL (L 15) (nI i).toNatClampNeg (L k1 (nI i).toNatClampNeg))) 16 (vp_updL (L 16) (nI i).toNatClampNeg 0)) B) rfl (fun j _ hn => sgC_c (up_n hn) rfl) (fun M4 hM4 hf4 => m_b ?_)
    rw [nI_1]
    have h9 : L 9 = L0 9 := hkD 9 (by omega) (by omega)
    have hk : L k1 = L0 k1 := hkD k1 (by omega) (by omega)
    rw [ec] at hM4
    refine ih (i + 1) n _ M4 (by omega) (by omega) hM4 (fr_t hfr (fr_t hf1 (fr_t hf2 (fr_t hf3 hf4)))) (fun k j1 j2 => ?_) (fun j hj => ?_)
    · rw [up_n (by omega), up_n (by omega), up_n (by omega), up_n (by omega)]
      exact hkD k j1 j2
    · show vp_updL (L 13) i (L 9 i) j = L0 9 j ∧ vp_updL (L 14) i (tb_4.getD i 0) j = k4 j ∧ vp_updL (L 15) i (L k1 i) j = L0 k1 j ∧ vp_updL (L 16) i 0 j = 0
      by_cases hji : j = i
      · subst hji
        rw [pk_uLs, pk_uLs, pk_uLs, pk_uLs, h9, hk]
        exact ⟨rfl, rfl, rfl, rfl⟩
      · rw [pk_uLn hji, pk_uLn hji, pk_uLn hji, pk_uLn hji]
        exact h j (by omega)
set_option maxHeartbeats 400000 in
theorem nv_0 {f : Nat → Int64} (h : ∀ j, j < 5 → f j = 0) : nv f 0 := by
  refine ⟨fun i hi => by rw [h i hi]; decide, ?_⟩
  rw [Wv_5, h 0 (by decide), h 1 (by decide), h 2 (by decide), h 3 (by decide), h 4 (by decide)]
  decide
set_option maxHeartbeats 400000 in
/-- to = top / s modulo n -/
theorem v_divide (fu : Nat) (hfu : 1200 ≤ fu) (MC MS : Nat) (cy : Nat → ClassId) (ad : Nat → Nat) (mi : Nat) (q : Nat → Nat) (hq : Ij 103 q) (n1 : Nat) (R : Nat → Nat → Option Nat) (hR : sgQ q R) (κ σ : Nat) (B : Nat → Nat → Int32) (L : Nat → Nat → Int64) (M : Mm) (Φ : Mm → Prop) {k1 kt s e : Nat} (hk1 : k1 = 8 ∨ k1 = 10) (hkt : kt = 11 ∨ kt = 12) (hM : Rg 103 q (sgC q cy n1 R L B) M) (hs : nv (L 9) s) (hs0 : 0 < s) (hsN : s < nN) (he : nv (L k1) e) (heN : e < nN) (hΦ : ∀ L' M' y, Rg 103 q (sgC q cy n1 R L' B) M' → fr 103 q M M' → kD kt L L' → nv (L' kt) y → dvN e s y → Φ M') : xw_mSi_divide fu MC MS cy ad mi Φ κ σ M (q 0) (q k1) (q kt) := by
  unfold xw_mSi_divide
  refine m_gr (hM 0 (by decide)) rfl (m_ar (hM 3 (by decide)) (by decide) (hR.2.1 0 (by decide)) (m_gr (hM 0 (by decide)) rfl (m_ar (hM 3 (by decide)) (by decide) (hR.2.1 1 (by decide)) (m_gr (hM 0 (by decide)) rfl (m_ar (hM 3 (by decide)) (by decide) (hR.2.1 2 (by decide)) (m_gr (hM 0 (by decide)) rfl (m_ar (hM 3 (by decide)) (by decide) (hR.2.1 3 (by decide)) ?_)))))))
  have hN := nN_pr.1
  refine l_dv34 fu hfu MC MS cy ad mi q hq n1 R hR κ σ B L M Φ hk1 hkt (fun L' M' hM' hf' hkD h => ?_) 5 0 fu L M (by omega) (by omega) hM (fr_r _ _ _) (fun _ _ _ => rfl) (fun j hj => absurd hj (Nat.not_lt_zero _))
  have hN256 : nN < 2 ^ 256 := by decide +kernel
  refine l_dv86 fu hfu MC MS cy ad mi q hq n1 R hR κ σ B L M Φ (s := s) (e := e) hkt hΦ 1100 0 fu 512 13 14 15 16 L' M' s nN e 0 (by omega) (by omega) (Or.inl ⟨rfl, rfl, rfl, rfl⟩) hM' hf' hkD (nv_c (fun j hj => (h j hj).1) hs) (nv_c (fun j hj => (h j hj).2.1) nv_4) (nv_c (fun j hj => (h j hj).2.2.1) he) (nv_0 (fun j hj => (h j hj).2.2.2)) ⟨nN_odd, ?_, heN, by omega, ⟨0, ?_⟩, ⟨-(e : Int), ?_⟩, by omega, hN256⟩ ?_ (by omega)
  · refine Nat.Coprime.symm (pr_cp nN_pr (fun hd => ?_))
    have := Nat.le_of_dvd hs0 hd
    omega
  · rw [Int.mul_comm]; simp
  · generalize (nN : Int) = N'
    generalize (e : Int) = E'
    grind
  · rw [show 512 = 256 + 256 from rfl, Nat.pow_add]
    exact Nat.mul_lt_mul'' (by omega) hN256
