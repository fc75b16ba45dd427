-- readKey
set_option maxHeartbeats 400000 in
theorem l_rK220 {F : Type} [Lean.Grind.Field F] {c : Int → F} (hc : cH pP c) (fu : Nat) (hfu : 100 ≤ fu) (MC MS : Nat) (cy : Nat → ClassId) (ad : Nat → Nat) (mi : Nat) (q : Nat → Nat) (hq : Ij 103 q) (n1 : Nat) (R : Nat → Nat → Option Nat) (hR : sgQ q R) (κ σ : Nat) (B : Nat → Nat → Int32) (L0 : Nat → Nat → Int64) (M0 : Mm) (Φ : Int32 → Mm → Prop) (ha : sz (L0 18) 2) (hb : sz (L0 19) 1) (hΦ : ∀ f v M, Rg 103 q (sgC q cy n1 R (va_up L0 18 f) B) M → fr 103 q M0 M → ((v = 1 ∧ c (Tv (L0 18) 10) = c (Tv (L0 19) 10)) ∨ (v = 0 ∧ c (Tv (L0 18) 10) ≠ c (Tv (L0 19) 10))) → Φ v M) : ∀ r i n g M, i + r = 10 → r < n → (∀ j, j < i → (g j).toInt = (L0 18 j).toInt - (L0 19 j).toInt) → (∀ j, i ≤ j → g j = L0 18 j) → Rg 103 q (sgC q cy n1 R (va_up L0 18 g) B) M → fr 103 q M0 M → xw_mCu_readKey_220 fu MC MS cy ad mi Φ n κ σ M (q 1) (nI i) := by
  intro r
  induction r with
  | zero =>
    intro i n g M hi hn h _ hM hf
    obtain ⟨n, rfl⟩ : ∃ m, n = m + 1 := ⟨n - 1, by omega⟩
    have : i = 10 := by omega
    subst this
    show xv_mCu_readKey_220 fu MC MS cy ad mi Φ (xw_mCu_readKey_220 fu MC MS cy ad mi Φ n) κ σ M (q 1) (nI 10)
    unfold xv_mCu_readKey_220
    have hsz : sz g 10 := fun j hj => by
      have q1 := ha j hj
      have q2 := hb j hj
      rw [h j hj]
      generalize (L0 18 j).toInt = b at *
      generalize (L0 19 j).toInt = b' at *
      omega
    have ht : Tv g 10 = Tv (L0 18) 10 - Tv (L0 19) 10 := by
      have := Tv_l (f := g) (g := L0 18) (h := L0 19) (k := L0 19) (a := 1) (b := -1) (c := 0) (n := 10) (fun j hj => by rw [h j hj]; omega)
      omega
    obtain ⟨f, ef, hf1⟩ := v_Cu_settle fu (by omega) g (sz_31 hsz (by decide))
    obtain ⟨v, ev, hv⟩ := v_Cu_hasNoBit fu (by omega) f hf1.1
    refine m_t (by decide) (m_gr (hM 1 (by decide)) rfl ⟨_, mal_c (hM 18 (by decide)) (mal_n _), mnd_q hq [18] (by decide) (by decide), f, ef, ?_⟩)
    refine m_lf hM hq (sgC q cy n1 R (va_up L0 18 f) B) [18] (by decide) (fun k hk hn => sgC_c (by rw [up_n (fun e => hn (by simp [e])), up_n (fun e => hn (by simp [e]))]) rfl) (fun M1 hM1 hf1' => ?_)
    refine m_gr (hM1 1 (by decide)) rfl ⟨_, mal_c (hM1 18 (by decide)) (mal_n _), mnd_q hq [18] (by decide) (by decide), v, ev, ?_⟩
    refine m_lf hM1 hq (sgC q cy n1 R (va_up L0 18 f) B) [18] (by decide) (fun k hk hn => rfl) (fun M2 hM2 hf2 => ?_)
    refine ⟨by rcases hv with ⟨e, -⟩ | ⟨e, -⟩ <;> rw [e] <;> decide, hΦ f v M2 hM2 (fr_t hf (fr_t hf1' hf2)) ?_⟩
    have e5 : Tv f 10 = 0 ↔ c (Tv (L0 18) 10) = c (Tv (L0 19) 10) := by
      rw [stl_0 hc hf1.1, c_cong hc hf1.2, ht, c_sub hc]
      constructor
      · intro e; grind
      · intro e; rw [e]; grind
    rcases hv with ⟨t1, t2⟩ | ⟨t1, t2⟩
    · exact Or.inl ⟨t1, e5.mp t2⟩
    · exact Or.inr ⟨t1, fun e => t2 (e5.mpr e)⟩
  | succ r ih =>
    intro i n g M hi hn h h' hM hf
    obtain ⟨n, rfl⟩ : ∃ m, n = m + 1 := ⟨n - 1, by omega⟩
    show xv_mCu_readKey_220 fu MC MS cy ad mi Φ (xw_mCu_readKey_220 fu MC MS cy ad mi Φ n) κ σ M (q 1) (nI i)
    unfold xv_mCu_readKey_220
    have hin : inb (nI i) 10 = true := inb_nI (by omega) (by decide)
    refine m_f (show ¬ (10 : Int32) ≤ nI i from nI_ge (b := 10) (by omega) (by decide)) (m_gr (hM 1 (by decide)) rfl (m_aj (hM 18 (by decide)) hin (m_gr (hM 1 (by decide)) rfl (m_aj (hM 19 (by decide)) hin (m_bv fun v ev => ?_)))))
    rw [nI_clamp (n := i) (by omega)] at ev
    replace ev : v = g i - L0 19 i := ev
    have q1 := ha i (by omega)
    have q2 := hb i (by omega)
    have iv : v.toInt = (L0 18 i).toInt - (L0 19 i).toInt := by
      rw [h' i (Nat.le_refl _)] at ev
      refine zz_i (by rw [ev]; exact zz_d (zz_s _) (zz_s _)) ?_ ?_
      · generalize (L0 18 i).toInt = b at *; generalize (L0 19 i).toInt = b' at *; omega
      · generalize (L0 18 i).toInt = b at *; generalize (L0 19 i).toInt = b' at *; omega
    refine m_sj hM hq (k := 18) (m := 10) (f := g) (by decide) rfl hin (sgC q cy n1 R (va_up L0 18 (vp_updL g i v)) B) (by rw [nI_clamp (n := i) (by omega)]; rfl) (fun j _ hn => sgC_c (by rw [up_n hn, up_n hn]) rfl) (fun M1 hM1 hf1 => m_b ?_)
    rw [nI_1]
    refine ih (i + 1) n _ M1 (by omega) (by omega) (fun j j1 => ?_) (fun j j1 => ?_) hM1 (fr_t hf hf1)
    · by_cases hj : j = i
      · rw [hj, pk_uLs]; exact iv
      · rw [pk_uLn hj]; exact h j (by omega)
    · rw [pk_uLn (by omega)]; exact h' j (by omega)
set_option maxHeartbeats 400000 in
/-- behind the coordinates -/
theorem l_rK195 {F : Type} [Lean.Grind.Field F] {c : Int → F} (hc : cH pP c) (fu : Nat) (hfu : 100 ≤ fu) (MC MS : Nat) (cy : Nat → ClassId) (ad : Nat → Nat) (mi : Nat) (q : Nat → Nat) (hq : Ij 103 q) (n1 : Nat) (R : Nat → Nat → Option Nat) (hR : sgQ q R) (κ σ : Nat) (B : Nat → Nat → Int32) (L0 : Nat → Nat → Int64) (M0 : Mm) (Φ : Int32 → Mm → Prop) (ha : sz (L0 18) 2) (hx : sz (L0 63) 1) (hy : sz (L0 64) 1) (hM : Rg 103 q (sgC q cy n1 R L0 B) M0) (hΦ : ∀ v L' B' M, Rg 103 q (sgC q cy n1 R L' B') M → fr 103 q M0 M → (∀ k, k ≠ 18 → k ≠ 19 → k ≠ 65 → L' k = L0 k) → (∀ k, k ≠ 62 → B' k = B k) → ((v = 1 ∧ c (Tv (L0 18) 10) = c (Tv (L0 64) 10) * c (Tv (L0 64) 10)) ∨ (v = 0 ∧ c (Tv (L0 18) 10) ≠ c (Tv (L0 64) 10) * c (Tv (L0 64) 10))) → B' 62 0 = 0 → jI c (B' 62 0) (B' 62 1) (L' 63) (L' 64) (L' 65) (some (c (Tv (L0 63) 10), c (Tv (L0 64) 10))) → Φ v M) : xv_mCu_readKey_195 fu MC MS cy ad mi Φ κ σ M0 (q 1) (q 62) := by
  unfold xv_mCu_readKey_195
  obtain ⟨⟨no, pl, z⟩, ez, hz⟩ := v_Po_becomePlain fu (by omega) (B 62 0) (B 62 1) (L0 65)
  obtain ⟨hno, hpl, hz⟩ := hz
  replace hno : no = 0 := hno
  replace hpl : pl = 1 := hpl
  replace hz : Tv z 10 = 1 ∧ sz z 2 := hz
  refine ⟨_, _, _, _, _, _, mal_c (hM 62 (by decide)) (mal_c (hM 65 (by decide)) (mal_n _)), mnd_q hq [62, 65] (by decide) (by decide), no, pl, z, ez, ?_⟩
  refine m_lf hM hq (sgC q cy n1 R (va_up L0 65 z) (va_up B 62 (fun j => if j = 0 then no else pl))) [62, 65] (by decide) (fun k hk hn => sgC_c (up_n (fun e => hn (by simp [e]))) (up_n (fun e => hn (by simp [e])))) (fun M1 hM1 hf1 => ?_)
  refine m_gr (hM1 62 (by decide)) rfl (m_gr (hM1 62 (by decide)) rfl ⟨rfl, m_gr (hM1 1 (by decide)) rfl ?_⟩)
  obtain ⟨b, eb, hb⟩ := v_Cu_multiply_e10 fu (by omega) (L0 64) (L0 19) (sz_m hy hy (by decide) (by decide) (by decide))
  refine ⟨_, _, mal_c (hM1 64 (by decide)) (mal_c (hM1 19 (by decide)) (mal_n _)), mnd_q hq [64, 19] (by decide) (by decide), b, eb, ?_⟩
  refine m_lf hM1 hq (sgC q cy n1 R (va_up (va_up L0 65 z) 19 b) (va_up B 62 (fun j => if j = 0 then no else pl))) [64, 19] (by decide) (fun k hk hn => sgC_c (up_n (fun e => hn (by simp [e]))) rfl) (fun M2 hM2 hf2 => ?_)
  refine l_rK220 hc fu hfu MC MS cy ad mi q hq n1 R hR κ σ (va_up B 62 (fun j => if j = 0 then no else pl)) (va_up (va_up L0 65 z) 19 b) M2 Φ ha hb.2 (fun f v M hM hf hv => ?_) 10 0 fu (L0 18) M2 (by omega) (by omega) (fun j hj => absurd hj (Nat.not_lt_zero _)) (fun j _ => rfl) (Rg_c hM2 (fun k _ => ?_)) (fr_r _ _ _)
  · refine hΦ v _ _ M hM (fr_t hf1 (fr_t hf2 hf)) (fun k k1 k2 k3 => by rw [up_n k1, up_n k2, up_n k3]) (fun k k1 => by rw [up_n k1]) ?_ hno ?_
    · have e : c (Tv b 10) = c (Tv (L0 64) 10) * c (Tv (L0 64) 10) := mulOk hc hb
      rw [← e]
      exact hv
    · show jI c no pl (L0 63) (L0 64) z _
      rw [hno, hpl]
      exact ⟨Or.inr rfl, Or.inl ⟨rfl, sz_w hx (by decide), sz_w hy (by decide), hz.2, fun _ => by rw [hz.1, c_1 hc], by rw [hz.1]; exact jr_1 (f_10 hc) (c_1 hc)⟩⟩
  · by_cases hk : k = 18
    · subst hk; exact sgC_c up_e rfl
    · exact sgC_c (up_n hk) rfl
/-- what readKey leaves as it was -/
def kK (L L' : Nat → Nat → Int64) (B B' : Nat → Nat → Int32) : Prop := (∀ k, ¬ (17 ≤ k ∧ k ≤ 19) → ¬ (23 ≤ k ∧ k < 29) → ¬ (63 ≤ k ∧ k ≤ 65) → L' k = L k) ∧ ∀ k, k ≠ 62 → B' k = B k
def kP {F : Type} [Lean.Grind.Field F] (c : Int → F) (h : Nat → Int32) (a n : Nat) (v : Int32) (L' : Nat → Nat → Int64) (B' : Nat → Nat → Int32) : Prop := (v = 0 ∧ ¬ ∃ x y, kS h a n x y) ∨ (v = 1 ∧ ∃ x y, kS h a n x y ∧ B' 62 0 = 0 ∧ jI c (B' 62 0) (B' 62 1) (L' 63) (L' 64) (L' 65) (some (c (x : Int), c (y : Int))))
set_option maxHeartbeats 400000 in
theorem Tv_low (f : Nat → Int64) : Tv f 10 % 2 = (f 0).toInt % 2 := by
  rw [T10]
  omega
set_option maxHeartbeats 400000 in
theorem stl_n {f : Nat → Int64} (h : stl f) : ∃ y : Nat, y < pP ∧ Tv f 10 = (y : Int) := by
  have h1 := (Tv_nn (nn10 h)).1
  have h2 := h.2.2
  rw [← pP_i] at h2
  obtain ⟨y, hy⟩ := Int.eq_ofNat_of_zero_le h1
  rw [hy] at h2
  exact ⟨y, Int.ofNat_lt.mp h2, hy⟩
set_option maxHeartbeats 400000 in
/-- equal squares as numbers and in the field -/
theorem sq_c {F : Type} [Lean.Grind.Field F] {c : Int → F} (hc : cH pP c) {y T : Nat} : y * y % pP = T % pP ↔ c (T : Int) = c (y : Int) * c (y : Int) := by
  rw [← c_tm hc, ← c_mod hc T]
  exact ⟨fun e => by rw [e], fun e => (c_inj hc (Nat.mod_lt _ pP_0) (Nat.mod_lt _ pP_0) e).symm⟩
set_option maxHeartbeats 400000 in
theorem T_c {F : Type} [Lean.Grind.Field F] {c : Int → F} (hc : cH pP c) (x : Nat) : c ((x * x % pP * x % pP + 7 : Nat) : Int) = c (x : Int) * c (x : Int) * c (x : Int) + c 7 := by
  rw [Int.natCast_add, c_add hc, c_tm hc, c_tm hc]
  rfl
set_option maxHeartbeats 400000 in
theorem l_rK57 {F : Type} [Lean.Grind.Field F] {c : Int → F} (hc : cH pP c) (fu : Nat) (hfu : 100 ≤ fu) (MC MS : Nat) (cy : Nat → ClassId) (ad : Nat → Nat) (mi : Nat) (q : Nat → Nat) (hq : Ij 103 q) (n1 : Nat) (R : Nat → Nat → Option Nat) (hR : sgQ q R) (κ σ : Nat) (hn1 : n1 < 2 ^ 31) (B : Nat → Nat → Int32) (L : Nat → Nat → Int64) (M : Mm) (Φ : Int32 → Mm → Prop) {a n : Nat} (han : a + n ≤ n1) (hκ : κ ≤ MC ∧ σ ≤ MS) (sh : Int32) (hsh : (sh = 1 ∧ n = 33 ∧ (B 102 a = 2 ∨ B 102 a = 3)) ∨ (sh = 0 ∧ n = 65 ∧ B 102 a = 4)) (hM : Rg 103 q (sgC q cy n1 R L B) M) (hΦ : ∀ v L' B' M', Rg 103 q (sgC q cy n1 R L' B') M' → fr 103 q M M' → kK L L' B B' → kP c (B 102) a n v L' B' → Φ v M') : xv_mCu_readKey_57 fu MC MS cy ad mi Φ κ σ M (q 1) (q 102) (nI a) (q 62) sh := by
  unfold xv_mCu_readKey_57
  have han' : a + 33 ≤ n1 := by omega
  refine m_bn (nI_1 a) (m_gr (hM 62 (by decide)) rfl ?_)
  obtain ⟨⟨v1, l1, x1⟩, e1, h1⟩ := v_Cu_readCoordinate fu n1 (by omega) hn1 (B 102) (a := a + 1) (by omega) (L 17) (L 63)
  refine ⟨_, _, _, _, _, _, _, _, _, _, _, mal_c (hM 1 (by decide)) (mal_c (hM 17 (by decide)) (mal_c (hM 102 (by decide)) (mal_c (hM 63 (by decide)) (mal_n _)))), mnd_q hq [1, 17, 102, 63] (by decide) (by decide), v1, l1, x1, e1, ?_⟩
  refine m_lf hM hq (sgC q cy n1 R (va_up (va_up L 17 l1) 63 x1) B) [1, 17, 102, 63] (by decide) (fun k hk hn => sgC_c (by rw [up_n (fun e => hn (by simp [e])), up_n (fun e => hn (by simp [e]))]) rfl) (fun M1 hM1 hf1 => ?_)
  rcases h1 with ⟨ev, hX, hTx, hnx⟩ | ⟨ev, hX⟩
  · replace ev : v1 = 1 := ev
    replace hTx : Tv x1 10 = (beN (B 102) (a + 1) 32 : Int) := hTx
    replace hnx : nn x1 10 := hnx
    refine m_f (by rw [ev]; exact one_ne) (m_gr (hM1 62 (by decide)) rfl (m_gr (hM1 62 (by decide)) rfl ⟨rfl, m_gr (hM1 1 (by decide)) rfl ?_⟩))
    have sx := nn1_sz hnx
    obtain ⟨X, hXe⟩ : ∃ X, X = beN (B 102) (a + 1) 32 := ⟨_, rfl⟩
    rw [← hXe] at hX hTx
    obtain ⟨f2, e2, h2⟩ := v_Cu_multiply_e10 fu (by omega) x1 (L 18) (sz_m sx sx (by decide) (by decide) (by decide))
    refine ⟨_, _, mal_c (hM1 63 (by decide)) (mal_c (hM1 18 (by decide)) (mal_n _)), mnd_q hq [63, 18] (by decide) (by decide), f2, e2, ?_⟩
    refine m_lf hM1 hq (sgC q cy n1 R (va_up (va_up (va_up L 17 l1) 63 x1) 18 f2) B) [63, 18] (by decide) (fun k hk hn => sgC_c (up_n (fun e => hn (by simp [e]))) rfl) (fun M2 hM2 hf2 => ?_)
    refine m_gr (hM2 1 (by decide)) rfl (m_gr (hM2 62 (by decide)) rfl (m_gr (hM2 1 (by decide)) rfl ⟨rfl, ?_⟩))
    obtain ⟨f3, e3, h3⟩ := v_Cu_multiply_e20 fu (by omega) x1 f2 (sz_m h2.2 sx (by decide) (by decide) (by decide))
    refine ⟨_, _, mal_c (hM2 18 (by decide)) (mal_c (hM2 63 (by decide)) (mal_n _)), mnd_q hq [18, 63] (by decide) (by decide), f3, e3, ?_⟩
    refine m_lf hM2 hq (sgC q cy n1 R (va_up (va_up (va_up (va_up L 17 l1) 63 x1) 18 f2) 18 f3) B) [18, 63] (by decide) (fun k hk hn => sgC_c (up_n (fun e => hn (by simp [e]))) rfl) (fun M3 hM3 hf3 => ?_)
    refine m_gr (hM3 1 (by decide)) rfl (m_aj (hM3 18 (by decide)) (by decide) (m_bv fun v7 e7 => ?_))
    replace e7 : v7 = f3 0 + 7 := e7
    obtain ⟨f4, hf4⟩ : ∃ f4, f4 = vp_updL f3 0 v7 := ⟨_, rfl⟩
    refine m_sj hM3 hq (k := 18) (m := 10) (f := f3) (by decide) rfl (by decide) (sgC q cy n1 R (va_up (va_up (va_up L 17 l1) 63 x1) 18 f4) B) (by rw [hf4]; rfl) (fun j _ hn => sgC_c (by rw [up_n hn, up_n hn, up_n hn]) rfl) (fun M4 hM4 hf4' => ?_)
    have i7 : v7.toInt = (f3 0).toInt + 7 := by
      have := h3.2 0 (by decide)
      refine zz_i (by rw [e7]; exact zz_a (zz_s _) (zz_k rfl)) ?_ ?_
      · generalize (f3 0).toInt = b at *; omega
      · generalize (f3 0).toInt = b at *; omega
    have s4 : sz f4 2 := fun j hj => by
      have q1 := h3.2 0 (by decide)
      have q2 := h3.2 j hj
      rw [hf4]
      by_cases j0 : j = 0
      · rw [j0, pk_uLs, i7]
        generalize (f3 0).toInt = b at *
        omega
      · rw [pk_uLn j0]
        generalize (f3 j).toInt = b at *
        omega
    have t4 : Tv f4 10 = Tv f3 10 + 7 := by
      rw [T10, T10, hf4, pk_uLs, i7, pk_uLn (by omega), pk_uLn (by omega), pk_uLn (by omega), pk_uLn (by omega), pk_uLn (by omega), pk_uLn (by omega), pk_uLn (by omega), pk_uLn (by omega), pk_uLn (by omega)]
      omega
    obtain ⟨T, hT⟩ : ∃ T, T = X * X % pP * X % pP + 7 := ⟨_, rfl⟩
    have c4 : c (Tv f4 10) = c (T : Int) := by
      have k2 : c (Tv f2 10) = c (Tv x1 10) * c (Tv x1 10) := mulOk hc h2
      have k3 : c (Tv f3 10) = c (Tv f2 10) * c (Tv x1 10) := mulOk hc h3
      rw [t4, c_add hc, k3, k2, hTx, hT, T_c hc]
    have hT0 : T % pP ≠ 0 := by rw [hT]; exact cub
    obtain ⟨L1, hL1⟩ : ∃ L1, L1 = va_up (va_up (va_up L 17 l1) 63 x1) 18 f4 := ⟨_, rfl⟩
    rw [← hL1] at hM4
    have l18 : L1 18 = f4 := by rw [hL1]; rfl
    have l63 : L1 63 = x1 := by rw [hL1]; rfl
    have lk : ∀ k, k ≠ 17 → k ≠ 18 → k ≠ 63 → L1 k = L k := fun k k1 k2 k3 => by rw [hL1, up_n k2, up_n k3, up_n k1]
    have hfr4 : fr 103 q M M4 := fr_t hf1 (fr_t hf2 (fr_t hf3 hf4'))
    -- the end, whatever y
    have fin : ∀ L2 M5 κ' σ', Rg 103 q (sgC q cy n1 R L2 B) M5 → fr 103 q M4 M5 → (∀ k, ¬ (23 ≤ k ∧ k < 29) → k ≠ 17 → k ≠ 64 → L2 k = L1 k) → sz (L2 64) 1 → (∀ y, kS (B 102) a n X y → c (T : Int) = c (Tv (L2 64) 10) * c (Tv (L2 64) 10)) → (c (T : Int) = c (Tv (L2 64) 10) * c (Tv (L2 64) 10) → ∃ y : Nat, kS (B 102) a n X y ∧ c (Tv (L2 64) 10) = c (y : Int)) → xv_mCu_readKey_195 fu MC MS cy ad mi Φ κ' σ' M5 (q 1) (q 62) := by
      intro L2 M5 κ' σ' hM5 hf5 hk2 sy hno hyes
      have w18 : L2 18 = f4 := by rw [hk2 18 (by omega) (by omega) (by omega), l18]
      have w63 : L2 63 = x1 := by rw [hk2 63 (by omega) (by omega) (by omega), l63]
      refine l_rK195 hc fu hfu MC MS cy ad mi q hq n1 R hR κ' σ' B L2 M5 Φ (by rw [w18]; exact s4) (by rw [w63]; exact sx) sy hM5 (fun v L' B' M6 hM6 hf6 hkL hkB hv hb0 hj => hΦ v L' B' M6 hM6 (fr_t hfr4 (fr_t hf5 hf6)) ⟨fun k k1 k2 k3 => ?_, hkB⟩ ?_)
      · rw [hkL k (by omega) (by omega) (by omega), hk2 k k2 (by omega) (by omega), lk k (by omega) (by omega) (by omega)]
      · rw [w18, c4] at hv
        rcases hv with ⟨v1, hv⟩ | ⟨v0, hv⟩
        · obtain ⟨y, hy, ey⟩ := hyes hv
          refine Or.inr ⟨v1, X, y, hy, hb0, ?_⟩
          rw [w63, hTx, ey] at hj
          exact hj
        · refine Or.inl ⟨v0, ?_⟩
          rintro ⟨x, y, hy⟩
          have : x = X := by rw [hy.2.1, hXe]
          rw [this] at hy
          exact hv (hno y hy)
    rcases hsh with ⟨s1, hn33, hk23⟩ | ⟨s0, hn65, hk4⟩
    · -- short
      refine m_f (by rw [s1]; exact one_ne) (m_gr (hM4 1 (by decide)) rfl (m_gr (hM4 62 (by decide)) rfl (m_ck (hM4 1 (by decide)) ⟨0, 0, ⟨by omega, by omega⟩, ?_⟩)))
      refine v_takeRoot hc fu hfu 0 0 cy ad mi q hq n1 R hR 0 0 B L1 M4 _ hM4 (by rw [l18]; exact s4) (fun L2 M5 hM5 hf5 hk5 hT5 hs5 => ?_)
      rw [l18, c4, pw_c hc] at hT5
      obtain ⟨y, ey, hy⟩ := v_Cu_settle fu (by omega) (L2 64) (sz_31 hs5 (by decide))
      refine m_gr (hM5 62 (by decide)) rfl ⟨_, mal_c (hM5 64 (by decide)) (mal_n _), mnd_q hq [64] (by decide) (by decide), y, ey, ?_⟩
      refine m_lf hM5 hq (sgC q cy n1 R (va_up L2 64 y) B) [64] (by decide) (fun k hk hn => sgC_c (up_n (fun e => hn (by simp [e]))) rfl) (fun M6 hM6 hf6 => ?_)
      obtain ⟨Y, hYp, hTY⟩ := stl_n hy.1
      have cY : c (Y : Int) = c ((T ^ kE % pP : Nat) : Int) := by rw [← hTY, c_cong hc hy.2, hT5]
      have hY : Y = T ^ kE % pP := c_inj hc hYp (Nat.mod_lt _ pP_0) cY
      have root : ∀ y0, y0 * y0 % pP = T % pP → Y * Y % pP = T % pP := fun y0 h0 => by rw [hY]; exact rt_1 h0 hT0
      have par : (y 0).toInt % 2 = (Y : Int) % 2 := by rw [← Tv_low, hTY]
      refine m_gr (hM6 62 (by decide)) rfl (m_aj (hM6 64 (by decide)) (by decide) (m_bv fun v77 e77 => m_ai (hM6 102 (by decide)) (inb_nI (by omega) (by omega)) ?_))
      replace e77 : v77 = y 0 &&& 1 := e77
      have i77 : v77.toInt = (Y : Int) % 2 := by rw [e77, l_a1, ← par]; rfl
      rw [nI_clamp (n := a) (by omega)]
      obtain ⟨pb, hpb, hpb2, hpb3⟩ : ∃ pb : Nat, pb < 2 ∧ ((B 102 a &&& (1 : Int32)).toInt64).toInt = (pb : Int) ∧ B 102 a &&& 1 = nI pb := by
        rcases hk23 with e | e
        · exact ⟨0, by decide, by rw [e]; decide, by rw [e]; decide⟩
        · exact ⟨1, by decide, by rw [e]; decide, by rw [e]; decide⟩
      have kSi : ∀ y0, kS (B 102) a n X y0 ↔ y0 < pP ∧ y0 * y0 % pP = T % pP ∧ y0 % 2 = pb := by
        intro y0
        unfold kS
        rw [hn33, hpb3, hT]
        constructor
        · rintro ⟨-, -, -, g1, g2, -, g3⟩
          exact ⟨g1, g2, (nI_01 (Nat.mod_lt _ (by decide)) hpb).mp (g3 rfl)⟩
        · rintro ⟨g1, g2, g3⟩
          exact ⟨Or.inl ⟨rfl, hk23⟩, hXe, hX, g1, g2, fun e => absurd e (by decide), fun _ => by rw [g3]⟩
      have hk6 : ∀ f : Nat → Int64, ∀ k, ¬ (23 ≤ k ∧ k < 29) → k ≠ 17 → k ≠ 64 → va_up L2 64 f k = L1 k := fun f k k1 k2 k3 => by rw [up_n k3]; exact hk5 k k1 k3
      by_cases hp : Y % 2 = pb
      · refine m_t ((lg_c _ _).1.mpr (by rw [i77, hpb2, ← hp]; omega)) ?_
        refine fin (va_up L2 64 y) M6 _ _ hM6 (fr_t hf5 hf6) (hk6 y) (nn_sz hy.1) (fun y0 hy0 => ?_) (fun e => ⟨Y, (kSi Y).mpr ⟨hYp, ?_, hp⟩, ?_⟩)
        · show c (T : Int) = c (Tv y 10) * c (Tv y 10)
          rw [hTY]
          exact (sq_c hc).mp (root y0 ((kSi y0).mp hy0).2.1)
        · replace e : c (T : Int) = c (Tv y 10) * c (Tv y 10) := e
          rw [hTY] at e
          exact (sq_c hc).mpr e
        · show c (Tv y 10) = _
          rw [hTY]
      · refine m_f (fun e => hp (by have := (lg_c _ _).1.mp e; rw [i77, hpb2] at this; omega)) ?_
        obtain ⟨z, ez, hz⟩ := v_Cu_negate fu (by omega) y (nn_sz hy.1) (by decide)
        refine m_gr (hM6 62 (by decide)) rfl ⟨rfl, _, mal_c (hM6 64 (by decide)) (mal_n _), mnd_q hq [64] (by decide) (by decide), z, ez, ?_⟩
        refine m_lf hM6 hq (sgC q cy n1 R (va_up (va_up L2 64 y) 64 z) B) [64] (by decide) (fun k hk hn => sgC_c (up_n (fun e => hn (by simp [e]))) rfl) (fun M7 hM7 hf7 => ?_)
        have ez2 : c (Tv z 10) * c (Tv z 10) = c (Y : Int) * c (Y : Int) := by rw [hz.1, hTY, c_neg hc]; grind
        refine fin (va_up (va_up L2 64 y) 64 z) M7 _ _ hM7 (fr_t hf5 (fr_t hf6 hf7)) (fun k k1 k2 k3 => by rw [up_n k3]; exact hk6 y k k1 k2 k3) hz.2 (fun y0 hy0 => ?_) (fun e => ?_)
        · show c (T : Int) = c (Tv z 10) * c (Tv z 10)
          rw [ez2]
          exact (sq_c hc).mp (root y0 ((kSi y0).mp hy0).2.1)
        · replace e : c (T : Int) = c (Tv z 10) * c (Tv z 10) := e
          rw [ez2] at e
          have hYY := (sq_c hc).mpr e
          have hY0 : 0 < Y := by
            apply Nat.pos_of_ne_zero
            intro g
            rw [g] at hYY
            exact hT0 hYY.symm
          refine ⟨pP - Y, (kSi (pP - Y)).mpr ⟨by omega, by rw [sqn (by omega)]; exact hYY, ?_⟩, ?_⟩
          · have := pP_odd
            omega
          · show c (Tv z 10) = _
            rw [hz.1, hTY, Int.ofNat_sub (by omega), c_sub hc, c_p hc, c_neg hc]
            grind
    · -- long
      refine m_t s0 (m_bn (nI_add a 33) (m_gr (hM4 62 (by decide)) rfl ?_))
      obtain ⟨⟨v5, l5, y5⟩, e5, h5⟩ := v_Cu_readCoordinate fu n1 (by omega) hn1 (B 102) (a := a + 33) (by omega) (L1 17) (L1 64)
      refine ⟨_, _, _, _, _, _, _, _, _, _, _, mal_c (hM4 1 (by decide)) (mal_c (hM4 17 (by decide)) (mal_c (hM4 102 (by decide)) (mal_c (hM4 64 (by decide)) (mal_n _)))), mnd_q hq [1, 17, 102, 64] (by decide) (by decide), v5, l5, y5, e5, ?_⟩
      refine m_lf hM4 hq (sgC q cy n1 R (va_up (va_up L1 17 l5) 64 y5) B) [1, 17, 102, 64] (by decide) (fun k hk hn => sgC_c (by rw [up_n (fun e => hn (by simp [e])), up_n (fun e => hn (by simp [e]))]) rfl) (fun M5 hM5 hf5 => ?_)
      have kSi : ∀ y0, kS (B 102) a n X y0 ↔ y0 < pP ∧ y0 * y0 % pP = T % pP ∧ y0 = beN (B 102) (a + 33) 32 := by
        intro y0
        unfold kS
        rw [hn65, hT]
        constructor
        · rintro ⟨-, -, -, g1, g2, g3, -⟩
          exact ⟨g1, g2, g3 rfl⟩
        · rintro ⟨g1, g2, g3⟩
          exact ⟨Or.inr ⟨rfl, hk4⟩, hXe, hX, g1, g2, fun _ => g3, fun e => absurd e (by decide)⟩
      rcases h5 with ⟨ev5, hY, hTy, hny⟩ | ⟨ev5, hY⟩
      · replace ev5 : v5 = 1 := ev5
        replace hTy : Tv y5 10 = (beN (B 102) (a + 33) 32 : Int) := hTy
        replace hny : nn y5 10 := hny
        refine m_f (by rw [ev5]; exact one_ne) ?_
        refine fin _ M5 _ _ hM5 hf5 (fun k k1 k2 k3 => by rw [up_n k3, up_n k2]) (nn1_sz hny) (fun y0 hy0 => ?_) (fun e => ⟨beN (B 102) (a + 33) 32, (kSi _).mpr ⟨hY, ?_, rfl⟩, ?_⟩)
        · show c (T : Int) = c (Tv y5 10) * c (Tv y5 10)
          have g := (kSi y0).mp hy0
          rw [hTy, ← g.2.2]
          exact (sq_c hc).mp g.2.1
        · replace e : c (T : Int) = c (Tv y5 10) * c (Tv y5 10) := e
          rw [hTy] at e
          exact (sq_c hc).mpr e
        · show c (Tv y5 10) = _
          rw [hTy]
      · refine m_t ev5 (hΦ 0 _ _ M5 hM5 (fr_t hfr4 hf5) ⟨fun k k1 k2 k3 => ?_, fun _ _ => rfl⟩ (Or.inl ⟨rfl, ?_⟩))
        · rw [up_n (by omega), up_n (by omega), lk k (by omega) (by omega) (by omega)]
        · rintro ⟨x, y, hy⟩
          have : x = X := by rw [hy.2.1, hXe]
          rw [this] at hy
          have g := (kSi y).mp hy
          exact hY (by rw [← g.2.2]; exact g.1)
  · refine m_t ev (hΦ 0 _ _ M1 hM1 hf1 ⟨fun k k1 k2 k3 => ?_, fun _ _ => rfl⟩ (Or.inl ⟨rfl, ?_⟩))
    · rw [up_n (by omega), up_n (by omega)]
    · rintro ⟨x, y, hy⟩
      exact hX (by rw [← hy.2.1]; exact hy.2.2.1)
set_option maxHeartbeats 400000 in
theorem v_readKey {F : Type} [Lean.Grind.Field F] {c : Int → F} (hc : cH pP c) (fu : Nat) (hfu : 100 ≤ fu) (MC MS : Nat) (cy : Nat → ClassId) (ad : Nat → Nat) (mi : Nat) (q : Nat → Nat) (hq : Ij 103 q) (n1 : Nat) (R : Nat → Nat → Option Nat) (hR : sgQ q R) (κ σ : Nat) (hn1 : n1 < 2 ^ 31) (B : Nat → Nat → Int32) (L : Nat → Nat → Int64) (M : Mm) (Φ : Int32 → Mm → Prop) {a n : Nat} (han : a + n ≤ n1) (hκ : κ ≤ MC ∧ σ ≤ MS) (hM : Rg 103 q (sgC q cy n1 R L B) M) (hΦ : ∀ v L' B' M', Rg 103 q (sgC q cy n1 R L' B') M' → fr 103 q M M' → kK L L' B B' → kP c (B 102) a n v L' B' → Φ v M') : xw_mCu_readKey fu MC MS cy ad mi Φ κ σ M (q 1) (q 102) (nI a) (nI n) (q 62) := by
  unfold xw_mCu_readKey
  have no : ∀ M', Rg 103 q (sgC q cy n1 R L B) M' → fr 103 q M M' → ¬ ((n = 33 ∧ (B 102 a = 2 ∨ B 102 a = 3)) ∨ (n = 65 ∧ B 102 a = 4)) → Φ 0 M' := fun M' hM' hf' h => hΦ 0 L B M' hM' hf' ⟨fun _ _ _ _ => rfl, fun _ _ => rfl⟩ (Or.inl ⟨rfl, by rintro ⟨x, y, hy⟩; exact h hy.1⟩)
  have sh : n = 33 → (B 102 a = 2 ∨ B 102 a = 3) → xv_mCu_readKey_20 fu MC MS cy ad mi Φ κ σ M (q 1) (q 102) (nI a) (nI n) (q 62) := by
    intro h33 hk
    have go := l_rK57 hc fu hfu MC MS cy ad mi q hq n1 R hR κ σ hn1 B L M Φ han hκ 1 (Or.inl ⟨rfl, h33, hk⟩) hM hΦ
    unfold xv_mCu_readKey_20 xv_mCu_readKey_25
    rw [h33]
    refine m_f (by decide) ?_
    unfold xv_mCu_readKey_44 xv_mCu_readKey_45
    exact m_f one_ne go
  have ot : ¬ (n = 33 ∧ (B 102 a = 2 ∨ B 102 a = 3)) → xv_mCu_readKey_24 fu MC MS cy ad mi Φ κ σ M (q 1) (q 102) (nI a) (nI n) (q 62) := by
    intro h33
    unfold xv_mCu_readKey_24 xv_mCu_readKey_25
    refine m_if (fun g => ?_) (fun g => ?_)
    · have n65 : n = 65 := (nI_eq (a := n) (b := 65) (by omega) (by decide)).mp g
      refine m_ai (hM 102 (by decide)) (inb_nI (by omega) (by omega)) ?_
      rw [nI_clamp (n := a) (by omega)]
      refine m_if (fun g4 => ?_) (fun g4 => ?_)
      · unfold xv_mCu_readKey_45
        exact m_t rfl (m_f one_ne (l_rK57 hc fu hfu MC MS cy ad mi q hq n1 R hR κ σ hn1 B L M Φ han hκ 0 (Or.inr ⟨rfl, n65, g4⟩) hM hΦ))
      · unfold xv_mCu_readKey_44 xv_mCu_readKey_45
        exact m_t rfl (m_t rfl (no M hM (fr_r _ _ _) (fun e => e.elim h33 (fun e => g4 e.2))))
    · unfold xv_mCu_readKey_44 xv_mCu_readKey_45
      exact m_t rfl (m_t rfl (no M hM (fr_r _ _ _) (fun e => e.elim h33 (fun e => g (by rw [e.1]; rfl)))))
  refine m_if (fun g => ?_) (fun g => ot (fun e => g (by rw [e.1]; rfl)))
  have n33 : n = 33 := (nI_eq (a := n) (b := 33) (by omega) (by decide)).mp g
  refine m_ai (hM 102 (by decide)) (inb_nI (by omega) (by omega)) ?_
  rw [nI_clamp (n := a) (by omega)]
  refine m_if (fun g2 => sh n33 (Or.inl g2)) (fun g2 => m_ai (hM 102 (by decide)) (inb_nI (by omega) (by omega)) ?_)
  rw [nI_clamp (n := a) (by omega)]
  exact m_if (fun g3 => sh n33 (Or.inr g3)) (fun g3 => ot (fun e => e.2.elim g2 g3))
