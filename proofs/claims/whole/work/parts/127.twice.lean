-- makeTwice
set_option maxHeartbeats 400000 in
theorem pP_i : (pP : Int) = 115792089237316195423570985008687907853269984665640564039457584007908834671663 := by decide +kernel
set_option maxHeartbeats 400000 in
theorem c_cong {F : Type} [Lean.Grind.Field F] {c : Int → F} (hc : cH pP c) {a b : Int} (h : cong a b) : c a = c b := by
  obtain ⟨k, hk⟩ := h
  refine c_eq hc ⟨k, ?_⟩
  rw [hk, pP_i]
  generalize (115792089237316195423570985008687907853269984665640564039457584007908834671663 : Int) = p
  grind
set_option maxHeartbeats 400000 in
theorem c_4 {F : Type} [Lean.Grind.Field F] {c : Int → F} (hc : cH pP c) : c 4 = 4 := by
  rw [show (4 : Int) = 2 + 2 from rfl, c_add hc, c_2 hc]
  grind
set_option maxHeartbeats 400000 in
theorem c_8 {F : Type} [Lean.Grind.Field F] {c : Int → F} (hc : cH pP c) : c 8 = 8 := by
  rw [show (8 : Int) = 4 + 4 from rfl, c_add hc, c_4 hc]
  grind
set_option maxHeartbeats 400000 in
theorem f_10 {F : Type} [Lean.Grind.Field F] {c : Int → F} (hc : cH pP c) : (1 : F) ≠ 0 := by
  intro q
  have := k_2 hc
  apply this
  grind
set_option maxHeartbeats 400000 in
theorem noy {F : Type} [Lean.Grind.Field F] {c : Int → F} (hc : cH pP c) {x y : F} (h : onC (c 7) (some (x, y))) : y ≠ 0 := by
  intro q
  obtain ⟨n, hn, rfl⟩ := hc.2.2.2.2 x
  have h' : y * y = c (n : Int) * c (n : Int) * c (n : Int) + c 7 := h
  rw [q] at h'
  have e : c (((n * n % pP * n % pP + 7) % pP : Nat) : Int) = 0 := by
    rw [c_mod hc, show (((n * n % pP * n % pP + 7 : Nat)) : Int) = ((n * n % pP * n % pP : Nat) : Int) + 7 from rfl, c_add hc, c_tm hc, c_tm hc, ← h']
    grind
  have h0 : (n * n % pP * n % pP + 7) % pP = 0 := by
    refine c_inj hc (Nat.mod_lt _ pP_0) pP_0 ?_
    rw [e]
    exact (c_0 hc).symm
  exact cub h0
/-- what a point's fields hold -/
def jI {F : Type} [Lean.Grind.Field F] (c : Int → F) (no pl : Int32) (x y z : Nat → Int64) (R : Option (F × F)) : Prop := (pl = 0 ∨ pl = 1) ∧ ((no = 0 ∧ sz x 9 ∧ sz y 9 ∧ sz z 2 ∧ (pl = 1 → c (Tv z 10) = 1) ∧ jr (c (Tv x 10)) (c (Tv y 10)) (c (Tv z 10)) R) ∨ (no = 1 ∧ R = none))
abbrev T8 : Type := (Nat → Int64) × (Nat → Int64) × (Nat → Int64) × (Nat → Int64) × Int32 × (Nat → Int64) × (Nat → Int64) × (Nat → Int64)
set_option maxHeartbeats 400000 in
theorem l_tw85 (fu : Nat) (no : Int32) (a0 u1 u2 u3 : Nat → Int64) (u4 : Int32) (u5 u6 z0 : Nat → Int64) (P : T8 → Prop) (ha : sz a0 1) (hz : sz z0 1) (hk : ∀ a z, (∀ j, j < 10 → (a j).toInt = 3 * (a0 j).toInt ∧ (z j).toInt = 2 * (z0 j).toInt) → ok (bd1 (x_Cu_multiply_e10 fu a u3) fun f1 => x_Cu_makeTwice_138 fu no fu (0 : Int32) a u1 u2 f1 u4 u5 u6 z) P) : ∀ r i a z n, i + r = 10 → r < n → (∀ j, j < i → (a j).toInt = 3 * (a0 j).toInt ∧ (z j).toInt = 2 * (z0 j).toInt) → (∀ j, i ≤ j → a j = a0 j ∧ z j = z0 j) → ok (x_Cu_makeTwice_85 fu no n (nI i) a u1 u2 u3 u4 u5 u6 z) P := by
  intro r
  induction r with
  | zero =>
    intro i a z n hi hn h _
    obtain ⟨n, rfl⟩ : ∃ m, n = m + 1 := ⟨n - 1, by omega⟩
    have : i = 10 := by omega
    subst this
    show ok (xb_Cu_makeTwice_85 fu no (x_Cu_makeTwice_85 fu no n) (nI 10) a u1 u2 u3 u4 u5 u6 z) _
    unfold xb_Cu_makeTwice_85
    exact ok_t (show (10 : Int32) ≤ nI 10 from by decide) (hk a z h)
  | succ r ih =>
    intro i a z n hi hn h h'
    obtain ⟨n, rfl⟩ : ∃ m, n = m + 1 := ⟨n - 1, by omega⟩
    show ok (xb_Cu_makeTwice_85 fu no (x_Cu_makeTwice_85 fu no n) (nI i) a u1 u2 u3 u4 u5 u6 z) _
    unfold xb_Cu_makeTwice_85
    have hin : inb (nI i) 10 = true := inb_nI (by omega) (by decide)
    refine ok_f (show ¬ (10 : Int32) ≤ nI i from nI_ge (b := 10) (by omega) (by decide)) (ok_gd hin (ok_bnd (ok_bnd (ok_gd hin (ok_bnd (ok_gd hin (ok_bnd (ok_bnd (ok_gd hin (ok_bnd (ok_bnd ?_)))))))))))
    rw [nI_clamp (n := i) (by omega), nI_1]
    refine ih (i + 1) _ _ n (by omega) (by omega) (fun j j1 => ?_) (fun j j1 => ?_)
    · by_cases hj : j = i
      · have e := h' i (Nat.le_refl _)
        have q1 := ha i (by omega)
        have q2 := hz i (by omega)
        rw [hj, pk_uLs, pk_uLs, e.1, e.2]
        refine ⟨?_, ?_⟩
        · rw [Int.mul_comm]
          refine zz_i (zz_m (zz_s _) (zz_k rfl)) ?_ ?_
          · generalize (a0 i).toInt = b at *; omega
          · generalize (a0 i).toInt = b at *; omega
        · rw [Int.mul_comm]
          refine zz_i (zz_m (zz_s _) (zz_k rfl)) ?_ ?_
          · generalize (z0 i).toInt = b at *; omega
          · generalize (z0 i).toInt = b at *; omega
      · rw [pk_uLn hj, pk_uLn hj]
        exact h j (by omega)
    · rw [pk_uLn (by omega), pk_uLn (by omega)]
      exact h' j (by omega)
set_option maxHeartbeats 400000 in
theorem l_tw138 (fu : Nat) (no : Int32) (u0 u1 c0 d : Nat → Int64) (u4 : Int32) (x0 u6 u7 : Nat → Int64) (P : T8 → Prop) (hc : sz c0 1) (hd : sz d 1) (hk : ∀ x c, (∀ j, j < 10 → (x j).toInt = (d j).toInt - 8 * (c0 j).toInt ∧ (c j).toInt = 4 * (c0 j).toInt - (x j).toInt) → ok (bd1 (x_Cu_multiply fu u0 c u6) fun f1 => x_Cu_makeTwice_213 fu no fu (0 : Int32) u0 u1 c d u4 x f1 u7) P) : ∀ r i c x n, i + r = 10 → r < n → (∀ j, j < i → (x j).toInt = (d j).toInt - 8 * (c0 j).toInt ∧ (c j).toInt = 4 * (c0 j).toInt - (x j).toInt) → (∀ j, i ≤ j → c j = c0 j) → ok (x_Cu_makeTwice_138 fu no n (nI i) u0 u1 c d u4 x u6 u7) P := by
  intro r
  induction r with
  | zero =>
    intro i c x n hi hn h _
    obtain ⟨n, rfl⟩ : ∃ m, n = m + 1 := ⟨n - 1, by omega⟩
    have : i = 10 := by omega
    subst this
    show ok (xb_Cu_makeTwice_138 fu no (x_Cu_makeTwice_138 fu no n) (nI 10) u0 u1 c d u4 x u6 u7) _
    unfold xb_Cu_makeTwice_138
    exact ok_t (show (10 : Int32) ≤ nI 10 from by decide) (hk x c h)
  | succ r ih =>
    intro i c x n hi hn h h'
    obtain ⟨n, rfl⟩ : ∃ m, n = m + 1 := ⟨n - 1, by omega⟩
    show ok (xb_Cu_makeTwice_138 fu no (x_Cu_makeTwice_138 fu no n) (nI i) u0 u1 c d u4 x u6 u7) _
    unfold xb_Cu_makeTwice_138
    have hin : inb (nI i) 10 = true := inb_nI (by omega) (by decide)
    refine ok_f (show ¬ (10 : Int32) ≤ nI i from nI_ge (b := 10) (by omega) (by decide)) (ok_gd hin (ok_bnd (ok_gd hin (ok_bnd (ok_bv fun v4 e4 => ok_gd hin (ok_bnd (ok_gd hin (ok_bnd (ok_bnd (ok_gd hin (ok_bnd (ok_bv fun v9 e9 => ok_gd hin (ok_bnd (ok_bnd ?_))))))))))))))
    rw [nI_clamp (n := i) (by omega)] at e4 e9 ⊢
    rw [nI_1]
    have q1 := hc i (by omega)
    have q2 := hd i (by omega)
    have ec := h' i (Nat.le_refl _)
    rw [ec] at e4 e9
    rw [pk_uLs] at e9
    have i4 : v4.toInt = (d i).toInt - 8 * (c0 i).toInt := by
      refine zz_i (by rw [e4]; exact zz_d (zz_s _) (zz_m (zz_k rfl) (zz_s _))) ?_ ?_
      · generalize (c0 i).toInt = b at *; generalize (d i).toInt = b' at *; omega
      · generalize (c0 i).toInt = b at *; generalize (d i).toInt = b' at *; omega
    have i9 : v9.toInt = 4 * (c0 i).toInt - v4.toInt := by
      refine zz_i (by rw [e9]; exact zz_d (zz_m (zz_k rfl) (zz_s _)) (zz_s _)) ?_ ?_
      · generalize (c0 i).toInt = b at *; generalize (d i).toInt = b' at *; generalize v4.toInt = t at *; omega
      · generalize (c0 i).toInt = b at *; generalize (d i).toInt = b' at *; generalize v4.toInt = t at *; omega
    refine ih (i + 1) _ _ n (by omega) (by omega) (fun j j1 => ?_) (fun j j1 => ?_)
    · by_cases hj : j = i
      · rw [hj, pk_uLs, pk_uLs]
        exact ⟨i4, i9⟩
      · rw [pk_uLn hj, pk_uLn hj]
        exact h j (by omega)
    · rw [pk_uLn (by omega)]
      exact h' j (by omega)
set_option maxHeartbeats 400000 in
theorem l_tw213 (fu : Nat) (no : Int32) (u0 b u2 u3 : Nat → Int64) (u4 : Int32) (u5 y0 u7 : Nat → Int64) (hb : sz b 1) (hy : sz y0 1) : ∀ r i y n, i + r = 10 → r < n → (∀ j, j < i → (y j).toInt = (y0 j).toInt - 8 * (b j).toInt) → (∀ j, i ≤ j → y j = y0 j) → ok (x_Cu_makeTwice_213 fu no n (nI i) u0 b u2 u3 u4 u5 y u7) (fun t => ∃ y, t = (u0, b, u2, u3, 0, u5, y, u7) ∧ ∀ j, j < 10 → (y j).toInt = (y0 j).toInt - 8 * (b j).toInt) := by
  intro r
  induction r with
  | zero =>
    intro i y n hi hn h _
    obtain ⟨n, rfl⟩ : ∃ m, n = m + 1 := ⟨n - 1, by omega⟩
    have : i = 10 := by omega
    subst this
    show ok (xb_Cu_makeTwice_213 fu no (x_Cu_makeTwice_213 fu no n) (nI 10) u0 b u2 u3 u4 u5 y u7) _
    unfold xb_Cu_makeTwice_213
    exact ok_t (show (10 : Int32) ≤ nI 10 from by decide) (ok_some ⟨y, rfl, h⟩)
  | succ r ih =>
    intro i y n hi hn h h'
    obtain ⟨n, rfl⟩ : ∃ m, n = m + 1 := ⟨n - 1, by omega⟩
    show ok (xb_Cu_makeTwice_213 fu no (x_Cu_makeTwice_213 fu no n) (nI i) u0 b u2 u3 u4 u5 y u7) _
    unfold xb_Cu_makeTwice_213
    have hin : inb (nI i) 10 = true := inb_nI (by omega) (by decide)
    refine ok_f (show ¬ (10 : Int32) ≤ nI i from nI_ge (b := 10) (by omega) (by decide)) (ok_gd hin (ok_bnd (ok_gd hin (ok_bnd (ok_bnd (ok_gd hin (ok_bnd (ok_bnd ?_))))))))
    rw [nI_clamp (n := i) (by omega), nI_1]
    have q1 := hb i (by omega)
    have q2 := hy i (by omega)
    refine ih (i + 1) _ n (by omega) (by omega) (fun j j1 => ?_) (fun j j1 => ?_)
    · by_cases hj : j = i
      · rw [hj, pk_uLs, h' i (Nat.le_refl _)]
        refine zz_i (zz_d (zz_s _) (zz_m (zz_k rfl) (zz_s _))) ?_ ?_
        · generalize (b i).toInt = b at *; generalize (y0 i).toInt = b' at *; omega
        · generalize (b i).toInt = b at *; generalize (y0 i).toInt = b' at *; omega
      · rw [pk_uLn hj]
        exact h j (by omega)
    · rw [pk_uLn (by omega)]
      exact h' j (by omega)
set_option maxHeartbeats 400000 in
theorem v_Cu_makeTwice {F : Type} [Lean.Grind.Field F] [DecidableEq F] {c : Int → F} (hc : cH pP c) (fu : Nat) (hfu : 11 ≤ fu) (no pl : Int32) (u0 u1 u2 u3 x y z : Nat → Int64) {R : Option (F × F)} (hR : onC (c 7) R) (h : jI c no pl x y z R) : ok (x_Cu_makeTwice fu no u0 u1 u2 u3 pl x y z) (fun t => jI c no t.2.2.2.2.1 t.2.2.2.2.2.1 t.2.2.2.2.2.2.1 t.2.2.2.2.2.2.2 (ea R R)) := by
  unfold x_Cu_makeTwice
  obtain ⟨hpl, h⟩ := h
  rcases h with ⟨h0, sx, sy, sz', hz1, hj⟩ | ⟨h1, hr⟩
  · refine ok_t h0 ?_
    refine ok_bd1 (v_Cu_multiply_e21 fu (by omega) y z (sz_m sy sz' (by decide) (by decide) (by decide))) (fun f1 h1 => ?_)
    refine ok_bd1 (v_Cu_multiply_e10 fu (by omega) x u0 (sz_m sx sx (by decide) (by decide) (by decide))) (fun f2 h2 => ?_)
    refine ok_bd1 (v_Cu_multiply_e10 fu (by omega) y u1 (sz_m sy sy (by decide) (by decide) (by decide))) (fun f3 h3 => ?_)
    refine ok_bd1 (v_Cu_multiply fu (by omega) x f3 u2 (sz_m sx h3.2 (by decide) (by decide) (by decide))) (fun f4 h4 => ?_)
    refine ok_bd1 (v_Cu_multiply_e10e20 fu (by omega) f3 (sz_m h3.2 h3.2 (by decide) (by decide) (by decide))) (fun f5 h5 => ?_)
    refine l_tw85 fu no f2 f5 f4 u3 pl x y f1 _ h2.2 h1.2 ?_ 10 0 f2 f1 fu (by omega) (by omega) (fun j hj => absurd hj (Nat.not_lt_zero _)) (fun j _ => ⟨rfl, rfl⟩)
    intro a z' haz
    have sa : sz a 3 := fun j hj => by
      have := h2.2 j hj
      rw [(haz j hj).1]
      generalize (f2 j).toInt = b at *
      omega
    have sz2 : sz z' 2 := fun j hj => by
      have := h1.2 j hj
      rw [(haz j hj).2]
      generalize (f1 j).toInt = b at *
      omega
    refine ok_bd1 (v_Cu_multiply_e10 fu (by omega) a u3 (sz_m sa sa (by decide) (by decide) (by decide))) (fun d hd => ?_)
    refine l_tw138 fu no a f5 f4 d pl x y z' _ h4.2 hd.2 ?_ 10 0 f4 x fu (by omega) (by omega) (fun j hj => absurd hj (Nat.not_lt_zero _)) (fun j _ => rfl)
    intro x' c' hxc
    have sx' : sz x' 9 := fun j hj => by
      have q1 := h4.2 j hj
      have q2 := hd.2 j hj
      rw [(hxc j hj).1]
      generalize (f4 j).toInt = b at *
      generalize (d j).toInt = b' at *
      omega
    have sc' : sz c' 13 := fun j hj => by
      have q1 := h4.2 j hj
      have q2 := sx' j hj
      rw [(hxc j hj).2]
      generalize (f4 j).toInt = b at *
      generalize (x' j).toInt = b' at *
      omega
    refine ok_bd1 (v_Cu_multiply fu (by omega) a c' y (sz_m sa sc' (by decide) (by decide) (by decide))) (fun g hg => ?_)
    refine ok_mono (l_tw213 fu no a f5 c' d pl x' g z' h5.2 hg.2 10 0 g fu (by omega) (by omega) (fun j hj => absurd hj (Nat.not_lt_zero _)) (fun j _ => rfl)) ?_
    rintro t ⟨y', rfl, hy'⟩
    have sy' : sz y' 9 := fun j hj => by
      have q1 := h5.2 j hj
      have q2 := hg.2 j hj
      rw [hy' j hj]
      generalize (f5 j).toInt = b at *
      generalize (g j).toInt = b' at *
      omega
    refine ⟨Or.inl rfl, Or.inl ⟨h0, sx', sy', sz2, fun q => absurd (show (0 : Int32) = 1 from q) (by decide), ?_⟩⟩
    show jr (c (Tv x' 10)) (c (Tv y' 10)) (c (Tv z' 10)) (ea R R)
    have ta : Tv a 10 = 3 * Tv f2 10 := by
      have := Tv_l (f := a) (g := f2) (h := f2) (k := f2) (a := 3) (b := 0) (c := 0) (n := 10) (fun j hj => by rw [(haz j hj).1]; omega)
      omega
    have tz : Tv z' 10 = 2 * Tv f1 10 := by
      have := Tv_l (f := z') (g := f1) (h := f1) (k := f1) (a := 2) (b := 0) (c := 0) (n := 10) (fun j hj => by rw [(haz j hj).2]; omega)
      omega
    have tx : Tv x' 10 = Tv d 10 - 8 * Tv f4 10 := by
      have := Tv_l (f := x') (g := d) (h := f4) (k := f4) (a := 1) (b := -8) (c := 0) (n := 10) (fun j hj => by rw [(hxc j hj).1]; omega)
      omega
    have tc : Tv c' 10 = 4 * Tv f4 10 - Tv x' 10 := by
      have := Tv_l (f := c') (g := f4) (h := x') (k := f4) (a := 4) (b := -1) (c := 0) (n := 10) (fun j hj => by rw [(hxc j hj).2]; omega)
      omega
    have ty : Tv y' 10 = Tv g 10 - 8 * Tv f5 10 := by
      have := Tv_l (f := y') (g := g) (h := f5) (k := f5) (a := 1) (b := -8) (c := 0) (n := 10) (fun j hj => by rw [hy' j hj]; omega)
      omega
    have k1 : c (Tv f1 10) = c (Tv y 10) * c (Tv z 10) := by rw [c_cong hc h1.1, c_mul hc]
    have k2 : c (Tv f2 10) = c (Tv x 10) * c (Tv x 10) := by rw [c_cong hc h2.1, c_mul hc]
    have k3 : c (Tv f3 10) = c (Tv y 10) * c (Tv y 10) := by rw [c_cong hc h3.1, c_mul hc]
    have k4 : c (Tv f4 10) = c (Tv x 10) * (c (Tv y 10) * c (Tv y 10)) := by rw [c_cong hc h4.1, c_mul hc, k3]
    have k5 : c (Tv f5 10) = c (Tv y 10) * c (Tv y 10) * (c (Tv y 10) * c (Tv y 10)) := by rw [c_cong hc h5.1, c_mul hc, k3]
    have ka : c (Tv a 10) = 3 * (c (Tv x 10) * c (Tv x 10)) := by rw [ta, c_mul hc, c_3 hc, k2]
    have kd : c (Tv d 10) = c (Tv a 10) * c (Tv a 10) := by rw [c_cong hc hd.1, c_mul hc]
    have kg : c (Tv g 10) = c (Tv a 10) * c (Tv c' 10) := by rw [c_cong hc hg.1, c_mul hc]
    have hY : c (Tv y 10) ≠ 0 := by
      obtain ⟨hZ, p, q, rfl, -, e⟩ := hj
      rw [e]
      have := noy hc hR
      exact f_m0 (f_m0 (f_m0 this hZ) hZ) hZ
    refine jr_dbl (k_2 hc) hj hY ?_ ?_ ?_
    · rw [tz, c_mul hc, c_2 hc, k1]
    · rw [tx, c_sub hc, c_mul hc, c_8 hc, kd, ka, k4]
    · rw [ty, c_sub hc, c_mul hc, c_8 hc, kg, ka, k5, tc, c_sub hc, c_mul hc, c_4 hc, k4]
  · refine ok_f (by rw [h1]; decide) (ok_some ⟨hpl, Or.inr ⟨h1, ?_⟩⟩)
    rw [hr]
    rfl
