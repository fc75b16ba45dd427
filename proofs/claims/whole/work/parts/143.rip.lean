-- the reference's ripemd
set_option maxHeartbeats 400000 in
theorem rt16 : tb_16 = tb_8 := by decide
set_option maxHeartbeats 400000 in
theorem rt17 : tb_17 = tb_10 := by decide
set_option maxHeartbeats 400000 in
theorem rt18 : tb_18 = tb_9 := by decide
set_option maxHeartbeats 400000 in
theorem rt19 : tb_19 = tb_11 := by decide
set_option maxHeartbeats 400000 in
theorem rt20 : tb_20 = tb_13 := by decide
set_option maxHeartbeats 400000 in
theorem rt21 : tb_21 = tb_12 := by decide
set_option maxHeartbeats 400000 in
theorem m_small (fu n0 : Nat) (hn0 : n0 < 2 ^ 31) (p : Nat → Int32) {o : Nat} (ho : o + 4 ≤ n0) : x_M_small fu n0 p (nI o) = some (nI (leP p o 4)) := by
  unfold x_M_small
  rw [show nI o + (1 : Int32) = nI (o + 1) from nI_1 o, show nI o + (2 : Int32) = nI (o + 2) from nI_add o 2, show nI o + (3 : Int32) = nI (o + 3) from nI_add o 3]
  simp only [↓bnd_q]
  rw [gd_t (inb_nI (by omega) (by omega)), gd_t (inb_nI (by omega) (by omega)), gd_t (inb_nI (by omega) (by omega)), gd_t (inb_nI (by omega) (by omega)), nI_clamp (n := o) (by omega), nI_clamp (n := o + 1) (by omega), nI_clamp (n := o + 2) (by omega), nI_clamp (n := o + 3) (by omega), and255, and255, and255, and255]
  have b0 := By_lt (p o)
  have b1 := By_lt (p (o + 1))
  have b2 := By_lt (p (o + 2))
  have b3 := By_lt (p (o + 3))
  rw [pk_shlN ((8 : Int32) &&& 31) 8 (by decide) (by omega), pk_shlN ((16 : Int32) &&& 31) 16 (by decide) (by omega), pk_shlN ((24 : Int32) &&& 31) 24 (by decide) (by omega), nI_or (by omega) (by omega), nI_or (by omega) (by omega), nI_or (by omega) (by omega)]
  congr 2
  show _ = 0 + By (p o) * 2 ^ 0 + By (p (o + 1)) * 2 ^ 8 + By (p (o + 2)) * 2 ^ 16 + By (p (o + 3)) * 2 ^ 24
  omega
set_option maxHeartbeats 400000 in
theorem r_nI8 : ∀ i, i < 80 → tb_8.getD i 0 = nI (tb_8.getD i 0).toNatClampNeg := by decide +kernel
set_option maxHeartbeats 400000 in
theorem r_nI11 : ∀ i, i < 80 → tb_11.getD i 0 = nI (tb_11.getD i 0).toNatClampNeg := by decide +kernel
set_option maxHeartbeats 400000 in
theorem sar4 (x : Int32) {j : Nat} (hj : j < 4) : (x >>> (((8 : Int32) * nI j) &&& 31)).toInt8 = ((x.toUInt32 >>> (((8 : Int32) * nI j).toUInt32 &&& Int32.toUInt32 31)).toInt32).toInt8 := by
  have cs : j = 0 ∨ j = 1 ∨ j = 2 ∨ j = 3 := by omega
  rcases cs with rfl | rfl | rfl | rfl
  · exact sar8 x (j := 3) (by decide)
  · exact sar8 x (j := 2) (by decide)
  · exact sar8 x (j := 1) (by decide)
  · exact sar8 x (j := 0) (by decide)
set_option maxHeartbeats 400000 in
theorem l_rm532 (fu : Nat) (z : Nat → Int32) (n1 : Nat) (h1 : Nat → Int32) (K : Int32 → Int32 → Int32 → Int32 → Int32 → Int32 → (Nat → Int32) → (Nat → Int32) → Option ((Nat → Int32) × (Nat → Int32))) (P : (Nat → Int32) × (Nat → Int32) → Prop) (v : S5) (y0 : Int32) (u0 u1 : Nat → Int32) {i : Nat} (hi : i < 20) (hy : y0 = stf v (i / 4)) (hk : ok (K v.1 v.2.1 v.2.2.1 v.2.2.2.1 v.2.2.2.2 (nI (i + 1)) (upd u0 i (r_ob v i)) u1) P) : ok (xb_M_ripemd_532 fu z n1 h1 K v.1 v.2.1 v.2.2.1 v.2.2.2.1 v.2.2.2.2 (nI i) y0 (nI i) u0 u1) P := by
  unfold xb_M_ripemd_532
  rw [show nI i - nI i / (4 : Int32) * (4 : Int32) = nI (i % 4) from pk_rem (d := 4) (by omega) (by decide) (by decide)]
  refine ok_bnd (ok_gd (inb_nI (by omega) (by decide)) (ok_bnd (ok_bnd ?_)))
  rw [nI_clamp (n := i) (by omega), nI_1, pk_vb, sar4 _ (by omega), hy]
  exact hk
set_option maxHeartbeats 400000 in
theorem l_rm470 (fu : Nat) (z : Nat → Int32) (n1 : Nat) (h1 : Nat → Int32) (v : S5) (w u1 : Nat → Int32) : ∀ r i n u0, i + r = 20 → r < n → (∀ j, u0 j = if j < i then r_ob v j else w j) → ok (x_M_ripemd_470 fu z n1 h1 n v.1 v.2.1 v.2.2.1 v.2.2.2.1 v.2.2.2.2 (nI i) u0 u1) (fun t => ∀ j, t.1 j = if j < 20 then r_ob v j else w j) := by
  intro r
  induction r with
  | zero =>
    intro i n u0 hi hn h
    obtain ⟨n, rfl⟩ : ∃ m, n = m + 1 := ⟨n - 1, by omega⟩
    have : i = 20 := by omega
    subst this
    show ok (xb_M_ripemd_470 fu z n1 h1 (x_M_ripemd_470 fu z n1 h1 n) v.1 v.2.1 v.2.2.1 v.2.2.2.1 v.2.2.2.2 (nI 20) u0 u1) _
    unfold xb_M_ripemd_470
    exact ok_t (by decide) (ok_some h)
  | succ r ih =>
    intro i n u0 hi hn h
    obtain ⟨n, rfl⟩ : ∃ m, n = m + 1 := ⟨n - 1, by omega⟩
    show ok (xb_M_ripemd_470 fu z n1 h1 (x_M_ripemd_470 fu z n1 h1 n) v.1 v.2.1 v.2.2.1 v.2.2.2.1 v.2.2.2.2 (nI i) u0 u1) _
    unfold xb_M_ripemd_470
    have go : ok (x_M_ripemd_470 fu z n1 h1 n v.1 v.2.1 v.2.2.1 v.2.2.2.1 v.2.2.2.2 (nI (i + 1)) (upd u0 i (r_ob v i)) u1) (fun t => ∀ j, t.1 j = if j < 20 then r_ob v j else w j) := by
      refine ih (i + 1) n _ (by omega) (by omega) (fun j => ?_)
      by_cases g : j = i
      · rw [g, pk_us, if_pos (by omega)]
      · rw [pk_un g, h j]
        by_cases g2 : j < i
        · rw [if_pos g2, if_pos (by omega)]
        · rw [if_neg g2, if_neg (by omega)]
    refine ok_f (show ¬ (20 : Int32) ≤ nI i from nI_ge (b := 20) (by omega) (by decide)) ?_
    by_cases g4 : 4 ≤ i
    · refine ok_t (nI_le (a := 4) g4 (by omega)) ?_
      by_cases g8 : 8 ≤ i
      · refine ok_t (nI_le (a := 8) g8 (by omega)) ?_
        by_cases g12 : 12 ≤ i
        · refine ok_t (nI_le (a := 12) g12 (by omega)) ?_
          by_cases g16 : 16 ≤ i
          · refine ok_t (nI_le (a := 16) g16 (by omega)) (l_rm532 fu z n1 h1 _ _ v _ u0 u1 (by omega) ?_ go)
            rw [show i / 4 = 4 by omega]; rfl
          · refine ok_f (nI_ge (b := 16) (by omega) (by decide)) (l_rm532 fu z n1 h1 _ _ v _ u0 u1 (by omega) ?_ go)
            rw [show i / 4 = 3 by omega]; rfl
        · refine ok_f (nI_ge (b := 12) (by omega) (by decide)) (l_rm532 fu z n1 h1 _ _ v _ u0 u1 (by omega) ?_ go)
          rw [show i / 4 = 2 by omega]; rfl
      · refine ok_f (nI_ge (b := 8) (by omega) (by decide)) (l_rm532 fu z n1 h1 _ _ v _ u0 u1 (by omega) ?_ go)
        rw [show i / 4 = 1 by omega]; rfl
    · refine ok_f (nI_ge (b := 4) (by omega) (by decide)) (l_rm532 fu z n1 h1 _ _ v _ u0 u1 (by omega) ?_ go)
      rw [show i / 4 = 0 by omega]; rfl
set_option maxHeartbeats 400000 in
theorem l_rm183 (fu : Nat) (z : Nat → Int32) (n1 : Nat) (h1 : Nat → Int32) (K : Int32 → Int32 → Int32 → Int32 → Int32 → Int32 → Int32 → (Nat → Int32) → (Nat → Int32) → Option ((Nat → Int32) × (Nat → Int32))) (P : (Nat → Int32) × (Nat → Int32) → Prop) (x4 : Int32) (h : S5) {q : Nat} (hq : q < 1500) (w u0 u1 : Nat → Int32) (hw : ∀ i, i < 16 → nI (leP u1 (64 * q + 4 * i) 4) = w i) (hk : ∀ c : S5, c = r_cb h (r_ln 0 tb_8 tb_9 tb_10 w h 80) (r_ln 4 tb_11 tb_12 tb_13 w h 80) → ok (K x4 c.1 c.2.1 c.2.2.1 c.2.2.2.1 c.2.2.2.2 (nI (q + 1)) u0 u1) P) : ∀ r i n (v v' : S5), i + r = 80 → r < n → v = r_ln 0 tb_8 tb_9 tb_10 w h i → v' = r_ln 4 tb_11 tb_12 tb_13 w h i → ok (x_M_ripemd_183 fu z n1 h1 K n x4 h.1 h.2.1 h.2.2.1 h.2.2.2.1 h.2.2.2.2 (nI q) v.1 v.2.1 v.2.2.1 v.2.2.2.1 v.2.2.2.2 v'.1 v'.2.1 v'.2.2.1 v'.2.2.2.1 v'.2.2.2.2 (nI i) u0 u1) P := by
  intro r
  induction r with
  | zero =>
    intro i n v v' hi hn hv hv'
    obtain ⟨n, rfl⟩ : ∃ m, n = m + 1 := ⟨n - 1, by omega⟩
    have : i = 80 := by omega
    subst this
    show ok (xb_M_ripemd_183 fu z n1 h1 K (x_M_ripemd_183 fu z n1 h1 K n) x4 h.1 h.2.1 h.2.2.1 h.2.2.2.1 h.2.2.2.2 (nI q) v.1 v.2.1 v.2.2.1 v.2.2.2.1 v.2.2.2.2 v'.1 v'.2.1 v'.2.2.1 v'.2.2.2.1 v'.2.2.2.2 (nI 80) u0 u1) P
    unfold xb_M_ripemd_183
    refine ok_t (by decide) (ok_bnd (ok_bnd (ok_bnd (ok_bnd (ok_bnd (ok_bnd (ok_bnd (ok_bnd (ok_bnd (ok_bnd (ok_bnd ?_)))))))))))
    rw [nI_1]
    rw [← hv, ← hv'] at hk
    exact hk (r_cb h v v') rfl
  | succ r ih =>
    intro i n v v' hi hn hv hv'
    obtain ⟨n, rfl⟩ : ∃ m, n = m + 1 := ⟨n - 1, by omega⟩
    show ok (xb_M_ripemd_183 fu z n1 h1 K (x_M_ripemd_183 fu z n1 h1 K n) x4 h.1 h.2.1 h.2.2.1 h.2.2.2.1 h.2.2.2.2 (nI q) v.1 v.2.1 v.2.2.1 v.2.2.2.1 v.2.2.2.2 v'.1 v'.2.1 v'.2.2.1 v'.2.2.2.1 v'.2.2.2.2 (nI i) u0 u1) P
    unfold xb_M_ripemd_183
    have h80 : inb (nI i) 80 = true := inb_nI (by omega) (by decide)
    have h5 : inb (nI (i / 16)) 5 = true := inb_nI (by omega) (by decide)
    have ec : (nI i).toNatClampNeg = i := nI_clamp (n := i) (by omega)
    have ec2 : (nI (i / 16)).toNatClampNeg = i / 16 := nI_clamp (n := i / 16) (by omega)
    have e1 : nI i / (16 : Int32) = nI (i / 16) := pk_div (d := 16) (by omega) (by decide) (by decide)
    have e4 : (4 : Int32) - nI (i / 16) = nI (4 - i / 16) := pk_sub (a := 4) (by omega)
    have e64 : (64 : Int32) * nI q = nI (64 * q) := pk_mul 64 q
    have k8 := r_16a i (by omega)
    have k11 := r_16b i (by omega)
    rw [rt16, rt17, rt18, rt19, rt20, rt21, ec]
    refine ok_f (show ¬ (80 : Int32) ≤ nI i from nI_ge (b := 80) (by omega) (by decide)) (ok_bn e1 ?_)
    rw [r_mxM, bd1_q]
    refine ok_bnd (ok_bn e64 (ok_gd h80 (ok_bnd ?_)))
    have ew : nI (64 * q) + (4 : Int32) * tb_8.getD i 0 = nI (64 * q + 4 * (tb_8.getD i 0).toNatClampNeg) := by
      conv => lhs; rw [r_nI8 i (by omega)]
      rw [show (4 : Int32) = nI 4 from rfl, pk_mul, nI_add]
    have ew' : nI (64 * q) + (4 : Int32) * tb_11.getD i 0 = nI (64 * q + 4 * (tb_11.getD i 0).toNatClampNeg) := by
      conv => lhs; rw [r_nI11 i (by omega)]
      rw [show (4 : Int32) = nI 4 from rfl, pk_mul, nI_add]
    refine ok_bn ew ?_
    rw [m_small fu 100200 (by decide) u1 (by omega), bd1_q, hw _ k8]
    refine ok_bnd (ok_gd h5 (ok_bnd (ok_bnd (ok_gd h80 (ok_bnd (ok_bnd (ok_gd h80 (ok_bnd (ok_bnd (ok_bnd (ok_bnd (ok_bnd (ok_bn e4 ?_)))))))))))))
    rw [r_mxM, bd1_q]
    refine ok_bnd (ok_bn e64 (ok_gd h80 (ok_bnd (ok_bn ew' ?_))))
    rw [m_small fu 100200 (by decide) u1 (by omega), bd1_q, hw _ k11]
    refine ok_bnd (ok_gd h5 (ok_bnd (ok_bnd (ok_gd h80 (ok_bnd (ok_bnd (ok_gd h80 (ok_bnd (ok_bnd (ok_bnd (ok_bnd (ok_bnd (ok_bnd ?_)))))))))))))
    rw [nI_1, ec2]
    refine ih (i + 1) n (r_st (nI (i / 16)) (w (tb_8.getD i 0).toNatClampNeg) (tb_10.getD (i / 16) 0) (tb_9.getD i 0) v) (r_st (nI (4 - i / 16)) (w (tb_11.getD i 0).toNatClampNeg) (tb_13.getD (i / 16) 0) (tb_12.getD i 0) v') (by omega) (by omega) ?_ ?_
    · have em : mj 0 (i / 16) = i / 16 := rfl
      show _ = r_st (nI (mj 0 (i / 16))) (w (tb_8.getD i 0).toNatClampNeg) (tb_10.getD (i / 16) 0) (tb_9.getD i 0) (r_ln 0 tb_8 tb_9 tb_10 w h i)
      rw [hv, em]
    · have em : mj 4 (i / 16) = 4 - i / 16 := rfl
      show _ = r_st (nI (mj 4 (i / 16))) (w (tb_11.getD i 0).toNatClampNeg) (tb_13.getD (i / 16) 0) (tb_12.getD i 0) (r_ln 4 tb_11 tb_12 tb_13 w h i)
      rw [hv', em]
set_option maxHeartbeats 400000 in
theorem l_rm133 (fu : Nat) (hfu : 100 ≤ fu) (z : Nat → Int32) (n1 : Nat) (h1 : Nat → Int32) (m : Nat → Int32) (N : Nat) (hN : N ≤ 90000) (u0 u1 : Nat → Int32) (h1' : ∀ j, j < 64 * s_nb N → u1 j = r_pd m N j) : ∀ r q n (v : S5), q + r = s_nb N → r < n → v = r_it m N q → ok (x_M_ripemd_133 fu z n1 h1 n (nI (s_nb N)) v.1 v.2.1 v.2.2.1 v.2.2.2.1 v.2.2.2.2 (nI q) u0 u1) (fun t => ∀ j, t.1 j = if j < 20 then r_ob (r_it m N (s_nb N)) j else u0 j) := by
  have hb : 64 * s_nb N ≤ N + 72 ∧ N + 9 ≤ 64 * s_nb N := by unfold s_nb; omega
  intro r
  induction r with
  | zero =>
    intro q n v hi hn hv
    obtain ⟨n, rfl⟩ : ∃ m, n = m + 1 := ⟨n - 1, by omega⟩
    have : q = s_nb N := by omega
    subst this
    show ok (xb_M_ripemd_133 fu z n1 h1 (x_M_ripemd_133 fu z n1 h1 n) (nI (s_nb N)) v.1 v.2.1 v.2.2.1 v.2.2.2.1 v.2.2.2.2 (nI (s_nb N)) u0 u1) _
    unfold xb_M_ripemd_133
    rw [← hv]
    exact ok_t (Int32.le_refl _) (l_rm470 fu z n1 h1 v u0 u1 20 0 fu u0 (by omega) (by omega) (fun j => by rw [if_neg (by omega)]))
  | succ r ih =>
    intro q n v hi hn hv
    obtain ⟨n, rfl⟩ : ∃ m, n = m + 1 := ⟨n - 1, by omega⟩
    show ok (xb_M_ripemd_133 fu z n1 h1 (x_M_ripemd_133 fu z n1 h1 n) (nI (s_nb N)) v.1 v.2.1 v.2.2.1 v.2.2.2.1 v.2.2.2.2 (nI q) u0 u1) _
    unfold xb_M_ripemd_133
    refine ok_f (show ¬ nI (s_nb N) ≤ nI q from nI_ge (by omega) (by omega)) ?_
    refine l_rm183 fu z n1 h1 _ _ _ v (by omega) (r_w m N q) u0 u1 (fun i hi => ?_) (fun c hc => ih (q + 1) n c (by omega) (by omega) ?_) 80 0 fu v v (by omega) (by omega) rfl rfl
    · unfold r_w
      congr 1
      exact leP_c (fun j hj => h1' _ (by omega))
    · rw [hc, hv]
      rfl
set_option maxHeartbeats 400000 in
theorem l_rm65 (fu : Nat) (hfu : 1600 ≤ fu) (z : Nat → Int32) (n1 : Nat) (h1 : Nat → Int32) (m : Nat → Int32) (N : Nat) (hN : N ≤ 90000) (u0 w : Nat → Int32) (hw : ∀ j, j < 64 * s_nb N → w j = r_p0 m N j) : ∀ r i n u3, i + r = 8 → r < n → (∀ j, u3 j = if 64 * s_nb N - 8 ≤ j ∧ j < 64 * s_nb N - 8 + i then s_lb (lN N) (j - (64 * s_nb N - 8)) else w j) → ok (x_M_ripemd_65 fu z n1 h1 n (nI N) (nI (s_nb N)) (nI (64 * s_nb N)) (nI i) u0 u3) (fun t => ∀ j, t.1 j = if j < 20 then r_ob (r_it m N (s_nb N)) j else u0 j) := by
  have hb : 64 * s_nb N ≤ N + 72 ∧ N + 9 ≤ 64 * s_nb N := by unfold s_nb; omega
  intro r
  induction r with
  | zero =>
    intro i n u3 hi hn h
    obtain ⟨n, rfl⟩ : ∃ m, n = m + 1 := ⟨n - 1, by omega⟩
    have : i = 8 := by omega
    subst this
    show ok (xb_M_ripemd_65 fu z n1 h1 (x_M_ripemd_65 fu z n1 h1 n) (nI N) (nI (s_nb N)) (nI (64 * s_nb N)) (nI 8) u0 u3) _
    unfold xb_M_ripemd_65
    refine ok_t (by decide) (l_rm133 fu (by omega) z n1 h1 m N hN u0 u3 (fun j hj => ?_) (s_nb N) 0 fu (1732584193, -271733879, -1732584194, 271733878, -1009589776) (by omega) (by omega) rfl)
    rw [h j]
    unfold r_pd
    by_cases g : 64 * s_nb N - 8 ≤ j
    · rw [if_pos (by omega), if_neg (by omega)]
    · rw [if_neg (by omega), if_pos (by omega), hw j hj]
  | succ r ih =>
    intro i n u3 hi hn h
    obtain ⟨n, rfl⟩ : ∃ m, n = m + 1 := ⟨n - 1, by omega⟩
    show ok (xb_M_ripemd_65 fu z n1 h1 (x_M_ripemd_65 fu z n1 h1 n) (nI N) (nI (s_nb N)) (nI (64 * s_nb N)) (nI i) u0 u3) _
    unfold xb_M_ripemd_65
    have e1 : nI (64 * s_nb N) - (8 : Int32) = nI (64 * s_nb N - 8) := pk_sub (b := 8) (by omega)
    have e3 : (8 : Int64) * (nI N).toInt64 = lN N * 8 := by
      rw [iL (by omega), Int64.mul_comm]
    have e4 : 0 ≤ (lN N * 8).toInt := by
      rw [show lN N * 8 = lN (N * 8) from lN_m N 8, lN_I (by omega)]
      omega
    refine ok_f (show ¬ (8 : Int32) ≤ nI i from nI_ge (b := 8) (by omega) (by decide)) (ok_bn e1 (ok_bn (nI_add _ i) (ok_bn e3 (ok_bnd (ok_gd (inb_nI (by omega) (by decide)) (ok_bnd (ok_bnd ?_)))))))
    rw [nI_clamp (n := 64 * s_nb N - 8 + i) (by omega), nI_1, pk_vb, l_sar _ e4 (by omega)]
    refine ih (i + 1) n _ (by omega) (by omega) (fun j => ?_)
    by_cases hj : j = 64 * s_nb N - 8 + i
    · rw [hj, pk_us, if_pos (by omega), show 64 * s_nb N - 8 + i - (64 * s_nb N - 8) = i by omega]
      rfl
    · rw [pk_un hj, h j]
      by_cases g : 64 * s_nb N - 8 ≤ j ∧ j < 64 * s_nb N - 8 + i
      · rw [if_pos g, if_pos (by omega)]
      · rw [if_neg g, if_neg (by omega)]
set_option maxHeartbeats 400000 in
theorem l_rm33 (fu : Nat) (hfu : 1600 ≤ fu) (z : Nat → Int32) (n1 : Nat) (h1 : Nat → Int32) (m : Nat → Int32) (N : Nat) (hN : N ≤ 90000) (u0 : Nat → Int32) : ∀ r i n u3, i + r = 64 * s_nb N → N ≤ i → r < n → (∀ j, j < i → u3 j = if j < N then m j else 0) → ok (x_M_ripemd_33 fu z n1 h1 n (nI N) (nI (s_nb N)) (nI (64 * s_nb N)) (nI i) u0 u3) (fun t => ∀ j, t.1 j = if j < 20 then r_ob (r_it m N (s_nb N)) j else u0 j) := by
  have hb : 64 * s_nb N ≤ N + 72 ∧ N + 9 ≤ 64 * s_nb N := by unfold s_nb; omega
  intro r
  induction r with
  | zero =>
    intro i n u3 hi hNi hn h
    obtain ⟨n, rfl⟩ : ∃ m, n = m + 1 := ⟨n - 1, by omega⟩
    have : i = 64 * s_nb N := by omega
    subst this
    show ok (xb_M_ripemd_33 fu z n1 h1 (x_M_ripemd_33 fu z n1 h1 n) (nI N) (nI (s_nb N)) (nI (64 * s_nb N)) (nI (64 * s_nb N)) u0 u3) _
    unfold xb_M_ripemd_33
    refine ok_t (Int32.le_refl _) (ok_gd (inb_nI (by omega) (by decide)) (ok_bnd ?_))
    rw [nI_clamp (n := N) (by omega), nar80]
    refine l_rm65 fu hfu z n1 h1 m N hN u0 (upd u3 N (-128)) (fun j hj => ?_) 8 0 fu _ (by omega) (by omega) (fun j => by rw [if_neg (by omega)])
    unfold r_p0
    by_cases hj2 : j = N
    · rw [hj2, pk_us, if_neg (by omega), if_pos rfl]
    · rw [pk_un hj2, h j hj]
      by_cases g : j < N
      · rw [if_pos g, if_pos g]
      · rw [if_neg g, if_neg g, if_neg hj2]
  | succ r ih =>
    intro i n u3 hi hNi hn h
    obtain ⟨n, rfl⟩ : ∃ m, n = m + 1 := ⟨n - 1, by omega⟩
    show ok (xb_M_ripemd_33 fu z n1 h1 (x_M_ripemd_33 fu z n1 h1 n) (nI N) (nI (s_nb N)) (nI (64 * s_nb N)) (nI i) u0 u3) _
    unfold xb_M_ripemd_33
    refine ok_f (show ¬ nI (64 * s_nb N) ≤ nI i from nI_ge (by omega) (by omega)) (ok_gd (inb_nI (by omega) (by decide)) (ok_bnd (ok_bnd ?_)))
    rw [nI_clamp (n := i) (by omega), nI_1, nar0]
    refine ih (i + 1) n _ (by omega) (by omega) (by omega) (fun j hj => ?_)
    by_cases hj2 : j = i
    · rw [hj2, pk_us, if_neg (by omega)]
    · rw [pk_un hj2, h j (by omega)]
set_option maxHeartbeats 400000 in
/-- the reference's ripemd is the same one -/
theorem v_M_ripemd (fu : Nat) (hfu : 1600 ≤ fu) (z : Nat → Int32) (n1 : Nat) (h1 : Nat → Int32) (hn1 : n1 < 2 ^ 31) {a N : Nat} (hN : N ≤ 90000) (ha : a + N ≤ n1) (u0 u3 : Nat → Int32) (hfit : ∀ j, j < N → fits .byte (.int (h1 (a + j))) = true) : ok (x_M_ripemd fu z n1 h1 (nI a) (nI N) u0 u3) (fun t => ∀ j, t.1 j = if j < 20 then r_ob (r_it (fun i => h1 (a + i)) N (s_nb N)) j else u0 j) := by
  unfold x_M_ripemd
  have e1 : nI N + (9 : Int32) = nI (N + 9) := nI_add N 9
  have e2 : nI (N + 9) + (63 : Int32) = nI (N + 72) := nI_add (N + 9) 63
  have e3 : nI (N + 72) / (64 : Int32) = nI (s_nb N) := pk_div (d := 64) (by omega) (by decide) (by decide)
  have e4 : (64 : Int32) * nI (s_nb N) = nI (64 * s_nb N) := pk_mul 64 (s_nb N)
  refine ok_bn e1 (ok_bn e2 (ok_bn e3 (ok_bn e4 (ok_gd (cpk_nI (b := 0) (by omega) (by omega) (by omega) (by decide)) (ok_gd (bfit_nI (by omega) (by omega) hfit) (ok_bnd ?_))))))
  rw [nI_clamp (n := a) (by omega), nI_clamp (n := N) (by omega)]
  refine l_rm33 fu hfu z n1 h1 (fun i => h1 (a + i)) N hN u0 (64 * s_nb N - N) N fu _ (by unfold s_nb; omega) (by omega) (by unfold s_nb; omega) (fun j hj => ?_)
  show (if 0 ≤ j ∧ j < 0 + N then h1 (a + (j - 0)) else u3 j) = _
  rw [if_pos (by omega), if_pos hj, Nat.sub_zero]
set_option maxHeartbeats 400000 in
theorem l_rm532_f1hash (fu : Nat) (z : Nat → Int32) (K : Int32 → Int32 → Int32 → Int32 → Int32 → Int32 → (Nat → Int32) → (Nat → Int32) → Option ((Nat → Int32) × (Nat → Int32))) (P : (Nat → Int32) × (Nat → Int32) → Prop) (v : S5) (y0 : Int32) (u0 u1 : Nat → Int32) {i : Nat} (hi : i < 20) (hy : y0 = stf v (i / 4)) (hk : ok (K v.1 v.2.1 v.2.2.1 v.2.2.2.1 v.2.2.2.2 (nI (i + 1)) (upd u0 i (r_ob v i)) u1) P) : ok (xb_M_ripemd_f1hash_532 fu z K v.1 v.2.1 v.2.2.1 v.2.2.2.1 v.2.2.2.2 (nI i) y0 (nI i) u0 u1) P := by
  unfold xb_M_ripemd_f1hash_532
  rw [show nI i - nI i / (4 : Int32) * (4 : Int32) = nI (i % 4) from pk_rem (d := 4) (by omega) (by decide) (by decide)]
  refine ok_bnd (ok_gd (inb_nI (by omega) (by decide)) (ok_bnd (ok_bnd ?_)))
  rw [nI_clamp (n := i) (by omega), nI_1, pk_vb, sar4 _ (by omega), hy]
  exact hk
set_option maxHeartbeats 400000 in
theorem l_rm470_f1hash (fu : Nat) (z : Nat → Int32) (v : S5) (w u1 : Nat → Int32) : ∀ r i n u0, i + r = 20 → r < n → (∀ j, u0 j = if j < i then r_ob v j else w j) → ok (x_M_ripemd_f1hash_470 fu z n v.1 v.2.1 v.2.2.1 v.2.2.2.1 v.2.2.2.2 (nI i) u0 u1) (fun t => ∀ j, t.1 j = if j < 20 then r_ob v j else w j) := by
  intro r
  induction r with
  | zero =>
    intro i n u0 hi hn h
    obtain ⟨n, rfl⟩ : ∃ m, n = m + 1 := ⟨n - 1, by omega⟩
    have : i = 20 := by omega
    subst this
    show ok (xb_M_ripemd_f1hash_470 fu z (x_M_ripemd_f1hash_470 fu z n) v.1 v.2.1 v.2.2.1 v.2.2.2.1 v.2.2.2.2 (nI 20) u0 u1) _
    unfold xb_M_ripemd_f1hash_470
    exact ok_t (by decide) (ok_some h)
  | succ r ih =>
    intro i n u0 hi hn h
    obtain ⟨n, rfl⟩ : ∃ m, n = m + 1 := ⟨n - 1, by omega⟩
    show ok (xb_M_ripemd_f1hash_470 fu z (x_M_ripemd_f1hash_470 fu z n) v.1 v.2.1 v.2.2.1 v.2.2.2.1 v.2.2.2.2 (nI i) u0 u1) _
    unfold xb_M_ripemd_f1hash_470
    have go : ok (x_M_ripemd_f1hash_470 fu z n v.1 v.2.1 v.2.2.1 v.2.2.2.1 v.2.2.2.2 (nI (i + 1)) (upd u0 i (r_ob v i)) u1) (fun t => ∀ j, t.1 j = if j < 20 then r_ob v j else w j) := by
      refine ih (i + 1) n _ (by omega) (by omega) (fun j => ?_)
      by_cases g : j = i
      · rw [g, pk_us, if_pos (by omega)]
      · rw [pk_un g, h j]
        by_cases g2 : j < i
        · rw [if_pos g2, if_pos (by omega)]
        · rw [if_neg g2, if_neg (by omega)]
    refine ok_f (show ¬ (20 : Int32) ≤ nI i from nI_ge (b := 20) (by omega) (by decide)) ?_
    by_cases g4 : 4 ≤ i
    · refine ok_t (nI_le (a := 4) g4 (by omega)) ?_
      by_cases g8 : 8 ≤ i
      · refine ok_t (nI_le (a := 8) g8 (by omega)) ?_
        by_cases g12 : 12 ≤ i
        · refine ok_t (nI_le (a := 12) g12 (by omega)) ?_
          by_cases g16 : 16 ≤ i
          · refine ok_t (nI_le (a := 16) g16 (by omega)) (l_rm532_f1hash fu z _ _ v _ u0 u1 (by omega) ?_ go)
            rw [show i / 4 = 4 by omega]; rfl
          · refine ok_f (nI_ge (b := 16) (by omega) (by decide)) (l_rm532_f1hash fu z _ _ v _ u0 u1 (by omega) ?_ go)
            rw [show i / 4 = 3 by omega]; rfl
        · refine ok_f (nI_ge (b := 12) (by omega) (by decide)) (l_rm532_f1hash fu z _ _ v _ u0 u1 (by omega) ?_ go)
          rw [show i / 4 = 2 by omega]; rfl
      · refine ok_f (nI_ge (b := 8) (by omega) (by decide)) (l_rm532_f1hash fu z _ _ v _ u0 u1 (by omega) ?_ go)
        rw [show i / 4 = 1 by omega]; rfl
    · refine ok_f (nI_ge (b := 4) (by omega) (by decide)) (l_rm532_f1hash fu z _ _ v _ u0 u1 (by omega) ?_ go)
      rw [show i / 4 = 0 by omega]; rfl
set_option maxHeartbeats 400000 in
theorem l_rm183_f1hash (fu : Nat) (z : Nat → Int32) (K : Int32 → Int32 → Int32 → Int32 → Int32 → Int32 → Int32 → (Nat → Int32) → (Nat → Int32) → Option ((Nat → Int32) × (Nat → Int32))) (P : (Nat → Int32) × (Nat → Int32) → Prop) (x4 : Int32) (h : S5) {q : Nat} (hq : q < 1500) (w u0 u1 : Nat → Int32) (hw : ∀ i, i < 16 → nI (leP u1 (64 * q + 4 * i) 4) = w i) (hk : ∀ c : S5, c = r_cb h (r_ln 0 tb_8 tb_9 tb_10 w h 80) (r_ln 4 tb_11 tb_12 tb_13 w h 80) → ok (K x4 c.1 c.2.1 c.2.2.1 c.2.2.2.1 c.2.2.2.2 (nI (q + 1)) u0 u1) P) : ∀ r i n (v v' : S5), i + r = 80 → r < n → v = r_ln 0 tb_8 tb_9 tb_10 w h i → v' = r_ln 4 tb_11 tb_12 tb_13 w h i → ok (x_M_ripemd_f1hash_183 fu z K n x4 h.1 h.2.1 h.2.2.1 h.2.2.2.1 h.2.2.2.2 (nI q) v.1 v.2.1 v.2.2.1 v.2.2.2.1 v.2.2.2.2 v'.1 v'.2.1 v'.2.2.1 v'.2.2.2.1 v'.2.2.2.2 (nI i) u0 u1) P := by
  intro r
  induction r with
  | zero =>
    intro i n v v' hi hn hv hv'
    obtain ⟨n, rfl⟩ : ∃ m, n = m + 1 := ⟨n - 1, by omega⟩
    have : i = 80 := by omega
    subst this
    show ok (xb_M_ripemd_f1hash_183 fu z K (x_M_ripemd_f1hash_183 fu z K n) x4 h.1 h.2.1 h.2.2.1 h.2.2.2.1 h.2.2.2.2 (nI q) v.1 v.2.1 v.2.2.1 v.2.2.2.1 v.2.2.2.2 v'.1 v'.2.1 v'.2.2.1 v'.2.2.2.1 v'.2.2.2.2 (nI 80) u0 u1) P
    unfold xb_M_ripemd_f1hash_183
    refine ok_t (by decide) (ok_bnd (ok_bnd (ok_bnd (ok_bnd (ok_bnd (ok_bnd (ok_bnd (ok_bnd (ok_bnd (ok_bnd (ok_bnd ?_)))))))))))
    rw [nI_1]
    rw [← hv, ← hv'] at hk
    exact hk (r_cb h v v') rfl
  | succ r ih =>
    intro i n v v' hi hn hv hv'
    obtain ⟨n, rfl⟩ : ∃ m, n = m + 1 := ⟨n - 1, by omega⟩
    show ok (xb_M_ripemd_f1hash_183 fu z K (x_M_ripemd_f1hash_183 fu z K n) x4 h.1 h.2.1 h.2.2.1 h.2.2.2.1 h.2.2.2.2 (nI q) v.1 v.2.1 v.2.2.1 v.2.2.2.1 v.2.2.2.2 v'.1 v'.2.1 v'.2.2.1 v'.2.2.2.1 v'.2.2.2.2 (nI i) u0 u1) P
    unfold xb_M_ripemd_f1hash_183
    have h80 : inb (nI i) 80 = true := inb_nI (by omega) (by decide)
    have h5 : inb (nI (i / 16)) 5 = true := inb_nI (by omega) (by decide)
    have ec : (nI i).toNatClampNeg = i := nI_clamp (n := i) (by omega)
    have ec2 : (nI (i / 16)).toNatClampNeg = i / 16 := nI_clamp (n := i / 16) (by omega)
    have e1 : nI i / (16 : Int32) = nI (i / 16) := pk_div (d := 16) (by omega) (by decide) (by decide)
    have e4 : (4 : Int32) - nI (i / 16) = nI (4 - i / 16) := pk_sub (a := 4) (by omega)
    have e64 : (64 : Int32) * nI q = nI (64 * q) := pk_mul 64 q
    have k8 := r_16a i (by omega)
    have k11 := r_16b i (by omega)
    rw [rt16, rt17, rt18, rt19, rt20, rt21, ec]
    refine ok_f (show ¬ (80 : Int32) ≤ nI i from nI_ge (b := 80) (by omega) (by decide)) (ok_bn e1 ?_)
    rw [r_mxM, bd1_q]
    refine ok_bnd (ok_bn e64 (ok_gd h80 (ok_bnd ?_)))
    have ew : nI (64 * q) + (4 : Int32) * tb_8.getD i 0 = nI (64 * q + 4 * (tb_8.getD i 0).toNatClampNeg) := by
      conv => lhs; rw [r_nI8 i (by omega)]
      rw [show (4 : Int32) = nI 4 from rfl, pk_mul, nI_add]
    have ew' : nI (64 * q) + (4 : Int32) * tb_11.getD i 0 = nI (64 * q + 4 * (tb_11.getD i 0).toNatClampNeg) := by
      conv => lhs; rw [r_nI11 i (by omega)]
      rw [show (4 : Int32) = nI 4 from rfl, pk_mul, nI_add]
    refine ok_bn ew ?_
    rw [m_small fu 100200 (by decide) u1 (by omega), bd1_q, hw _ k8]
    refine ok_bnd (ok_gd h5 (ok_bnd (ok_bnd (ok_gd h80 (ok_bnd (ok_bnd (ok_gd h80 (ok_bnd (ok_bnd (ok_bnd (ok_bnd (ok_bnd (ok_bn e4 ?_)))))))))))))
    rw [r_mxM, bd1_q]
    refine ok_bnd (ok_bn e64 (ok_gd h80 (ok_bnd (ok_bn ew' ?_))))
    rw [m_small fu 100200 (by decide) u1 (by omega), bd1_q, hw _ k11]
    refine ok_bnd (ok_gd h5 (ok_bnd (ok_bnd (ok_gd h80 (ok_bnd (ok_bnd (ok_gd h80 (ok_bnd (ok_bnd (ok_bnd (ok_bnd (ok_bnd (ok_bnd ?_)))))))))))))
    rw [nI_1, ec2]
    refine ih (i + 1) n (r_st (nI (i / 16)) (w (tb_8.getD i 0).toNatClampNeg) (tb_10.getD (i / 16) 0) (tb_9.getD i 0) v) (r_st (nI (4 - i / 16)) (w (tb_11.getD i 0).toNatClampNeg) (tb_13.getD (i / 16) 0) (tb_12.getD i 0) v') (by omega) (by omega) ?_ ?_
    · have em : mj 0 (i / 16) = i / 16 := rfl
      show _ = r_st (nI (mj 0 (i / 16))) (w (tb_8.getD i 0).toNatClampNeg) (tb_10.getD (i / 16) 0) (tb_9.getD i 0) (r_ln 0 tb_8 tb_9 tb_10 w h i)
      rw [hv, em]
    · have em : mj 4 (i / 16) = 4 - i / 16 := rfl
      show _ = r_st (nI (mj 4 (i / 16))) (w (tb_11.getD i 0).toNatClampNeg) (tb_13.getD (i / 16) 0) (tb_12.getD i 0) (r_ln 4 tb_11 tb_12 tb_13 w h i)
      rw [hv', em]
set_option maxHeartbeats 400000 in
theorem l_rm133_f1hash (fu : Nat) (hfu : 100 ≤ fu) (z : Nat → Int32) (m : Nat → Int32) (N : Nat) (hN : N ≤ 90000) (u0 u1 : Nat → Int32) (h1' : ∀ j, j < 64 * s_nb N → u1 j = r_pd m N j) : ∀ r q n (v : S5), q + r = s_nb N → r < n → v = r_it m N q → ok (x_M_ripemd_f1hash_133 fu z n (nI (s_nb N)) v.1 v.2.1 v.2.2.1 v.2.2.2.1 v.2.2.2.2 (nI q) u0 u1) (fun t => ∀ j, t.1 j = if j < 20 then r_ob (r_it m N (s_nb N)) j else u0 j) := by
  have hb : 64 * s_nb N ≤ N + 72 ∧ N + 9 ≤ 64 * s_nb N := by unfold s_nb; omega
  intro r
  induction r with
  | zero =>
    intro q n v hi hn hv
    obtain ⟨n, rfl⟩ : ∃ m, n = m + 1 := ⟨n - 1, by omega⟩
    have : q = s_nb N := by omega
    subst this
    show ok (xb_M_ripemd_f1hash_133 fu z (x_M_ripemd_f1hash_133 fu z n) (nI (s_nb N)) v.1 v.2.1 v.2.2.1 v.2.2.2.1 v.2.2.2.2 (nI (s_nb N)) u0 u1) _
    unfold xb_M_ripemd_f1hash_133
    rw [← hv]
    exact ok_t (Int32.le_refl _) (l_rm470_f1hash fu z v u0 u1 20 0 fu u0 (by omega) (by omega) (fun j => by rw [if_neg (by omega)]))
  | succ r ih =>
    intro q n v hi hn hv
    obtain ⟨n, rfl⟩ : ∃ m, n = m + 1 := ⟨n - 1, by omega⟩
    show ok (xb_M_ripemd_f1hash_133 fu z (x_M_ripemd_f1hash_133 fu z n) (nI (s_nb N)) v.1 v.2.1 v.2.2.1 v.2.2.2.1 v.2.2.2.2 (nI q) u0 u1) _
    unfold xb_M_ripemd_f1hash_133
    refine ok_f (show ¬ nI (s_nb N) ≤ nI q from nI_ge (by omega) (by omega)) ?_
    refine l_rm183_f1hash fu z _ _ _ v (by omega) (r_w m N q) u0 u1 (fun i hi => ?_) (fun c hc => ih (q + 1) n c (by omega) (by omega) ?_) 80 0 fu v v (by omega) (by omega) rfl rfl
    · unfold r_w
      congr 1
      exact leP_c (fun j hj => h1' _ (by omega))
    · rw [hc, hv]
      rfl
set_option maxHeartbeats 400000 in
theorem l_rm65_f1hash (fu : Nat) (hfu : 1600 ≤ fu) (z : Nat → Int32) (m : Nat → Int32) (N : Nat) (hN : N ≤ 90000) (u0 w : Nat → Int32) (hw : ∀ j, j < 64 * s_nb N → w j = r_p0 m N j) : ∀ r i n u3, i + r = 8 → r < n → (∀ j, u3 j = if 64 * s_nb N - 8 ≤ j ∧ j < 64 * s_nb N - 8 + i then s_lb (lN N) (j - (64 * s_nb N - 8)) else w j) → ok (x_M_ripemd_f1hash_65 fu z n (nI N) (nI (s_nb N)) (nI (64 * s_nb N)) (nI i) u0 u3) (fun t => ∀ j, t.1 j = if j < 20 then r_ob (r_it m N (s_nb N)) j else u0 j) := by
  have hb : 64 * s_nb N ≤ N + 72 ∧ N + 9 ≤ 64 * s_nb N := by unfold s_nb; omega
  intro r
  induction r with
  | zero =>
    intro i n u3 hi hn h
    obtain ⟨n, rfl⟩ : ∃ m, n = m + 1 := ⟨n - 1, by omega⟩
    have : i = 8 := by omega
    subst this
    show ok (xb_M_ripemd_f1hash_65 fu z (x_M_ripemd_f1hash_65 fu z n) (nI N) (nI (s_nb N)) (nI (64 * s_nb N)) (nI 8) u0 u3) _
    unfold xb_M_ripemd_f1hash_65
    refine ok_t (by decide) (l_rm133_f1hash fu (by omega) z m N hN u0 u3 (fun j hj => ?_) (s_nb N) 0 fu (1732584193, -271733879, -1732584194, 271733878, -1009589776) (by omega) (by omega) rfl)
    rw [h j]
    unfold r_pd
    by_cases g : 64 * s_nb N - 8 ≤ j
    · rw [if_pos (by omega), if_neg (by omega)]
    · rw [if_neg (by omega), if_pos (by omega), hw j hj]
  | succ r ih =>
    intro i n u3 hi hn h
    obtain ⟨n, rfl⟩ : ∃ m, n = m + 1 := ⟨n - 1, by omega⟩
    show ok (xb_M_ripemd_f1hash_65 fu z (x_M_ripemd_f1hash_65 fu z n) (nI N) (nI (s_nb N)) (nI (64 * s_nb N)) (nI i) u0 u3) _
    unfold xb_M_ripemd_f1hash_65
    have e1 : nI (64 * s_nb N) - (8 : Int32) = nI (64 * s_nb N - 8) := pk_sub (b := 8) (by omega)
    have e3 : (8 : Int64) * (nI N).toInt64 = lN N * 8 := by
      rw [iL (by omega), Int64.mul_comm]
    have e4 : 0 ≤ (lN N * 8).toInt := by
      rw [show lN N * 8 = lN (N * 8) from lN_m N 8, lN_I (by omega)]
      omega
    refine ok_f (show ¬ (8 : Int32) ≤ nI i from nI_ge (b := 8) (by omega) (by decide)) (ok_bn e1 (ok_bn (nI_add _ i) (ok_bn e3 (ok_bnd (ok_gd (inb_nI (by omega) (by decide)) (ok_bnd (ok_bnd ?_)))))))
    rw [nI_clamp (n := 64 * s_nb N - 8 + i) (by omega), nI_1, pk_vb, l_sar _ e4 (by omega)]
    refine ih (i + 1) n _ (by omega) (by omega) (fun j => ?_)
    by_cases hj : j = 64 * s_nb N - 8 + i
    · rw [hj, pk_us, if_pos (by omega), show 64 * s_nb N - 8 + i - (64 * s_nb N - 8) = i by omega]
      rfl
    · rw [pk_un hj, h j]
      by_cases g : 64 * s_nb N - 8 ≤ j ∧ j < 64 * s_nb N - 8 + i
      · rw [if_pos g, if_pos (by omega)]
      · rw [if_neg g, if_neg (by omega)]
set_option maxHeartbeats 400000 in
theorem l_rm33_f1hash (fu : Nat) (hfu : 1600 ≤ fu) (z : Nat → Int32) (m : Nat → Int32) (N : Nat) (hN : N ≤ 90000) (u0 : Nat → Int32) : ∀ r i n u3, i + r = 64 * s_nb N → N ≤ i → r < n → (∀ j, j < i → u3 j = if j < N then m j else 0) → ok (x_M_ripemd_f1hash_33 fu z n (nI N) (nI (s_nb N)) (nI (64 * s_nb N)) (nI i) u0 u3) (fun t => ∀ j, t.1 j = if j < 20 then r_ob (r_it m N (s_nb N)) j else u0 j) := by
  have hb : 64 * s_nb N ≤ N + 72 ∧ N + 9 ≤ 64 * s_nb N := by unfold s_nb; omega
  intro r
  induction r with
  | zero =>
    intro i n u3 hi hNi hn h
    obtain ⟨n, rfl⟩ : ∃ m, n = m + 1 := ⟨n - 1, by omega⟩
    have : i = 64 * s_nb N := by omega
    subst this
    show ok (xb_M_ripemd_f1hash_33 fu z (x_M_ripemd_f1hash_33 fu z n) (nI N) (nI (s_nb N)) (nI (64 * s_nb N)) (nI (64 * s_nb N)) u0 u3) _
    unfold xb_M_ripemd_f1hash_33
    refine ok_t (Int32.le_refl _) (ok_gd (inb_nI (by omega) (by decide)) (ok_bnd ?_))
    rw [nI_clamp (n := N) (by omega), nar80]
    refine l_rm65_f1hash fu hfu z m N hN u0 (upd u3 N (-128)) (fun j hj => ?_) 8 0 fu _ (by omega) (by omega) (fun j => by rw [if_neg (by omega)])
    unfold r_p0
    by_cases hj2 : j = N
    · rw [hj2, pk_us, if_neg (by omega), if_pos rfl]
    · rw [pk_un hj2, h j hj]
      by_cases g : j < N
      · rw [if_pos g, if_pos g]
      · rw [if_neg g, if_neg g, if_neg hj2]
  | succ r ih =>
    intro i n u3 hi hNi hn h
    obtain ⟨n, rfl⟩ : ∃ m, n = m + 1 := ⟨n - 1, by omega⟩
    show ok (xb_M_ripemd_f1hash_33 fu z (x_M_ripemd_f1hash_33 fu z n) (nI N) (nI (s_nb N)) (nI (64 * s_nb N)) (nI i) u0 u3) _
    unfold xb_M_ripemd_f1hash_33
    refine ok_f (show ¬ nI (64 * s_nb N) ≤ nI i from nI_ge (by omega) (by omega)) (ok_gd (inb_nI (by omega) (by decide)) (ok_bnd (ok_bnd ?_)))
    rw [nI_clamp (n := i) (by omega), nI_1, nar0]
    refine ih (i + 1) n _ (by omega) (by omega) (by omega) (fun j hj => ?_)
    by_cases hj2 : j = i
    · rw [hj2, pk_us, if_neg (by omega)]
    · rw [pk_un hj2, h j (by omega)]
set_option maxHeartbeats 400000 in
/-- the reference's ripemd is the same one -/
theorem v_M_ripemd_f1hash (fu : Nat) (hfu : 1600 ≤ fu) (z : Nat → Int32) {a N : Nat} (hN : N ≤ 90000) (ha : a + N ≤ 32) (u0 u3 : Nat → Int32) (hfit : ∀ j, j < N → fits .byte (.int (u0 (a + j))) = true) : ok (x_M_ripemd_f1hash fu z (nI a) (nI N) u0 u3) (fun t => ∀ j, t.1 j = if j < 20 then r_ob (r_it (fun i => u0 (a + i)) N (s_nb N)) j else u0 j) := by
  unfold x_M_ripemd_f1hash
  have e1 : nI N + (9 : Int32) = nI (N + 9) := nI_add N 9
  have e2 : nI (N + 9) + (63 : Int32) = nI (N + 72) := nI_add (N + 9) 63
  have e3 : nI (N + 72) / (64 : Int32) = nI (s_nb N) := pk_div (d := 64) (by omega) (by decide) (by decide)
  have e4 : (64 : Int32) * nI (s_nb N) = nI (64 * s_nb N) := pk_mul 64 (s_nb N)
  refine ok_bn e1 (ok_bn e2 (ok_bn e3 (ok_bn e4 (ok_gd (cpk_nI (b := 0) (by omega) (by omega) (by decide) (by decide)) (ok_gd (bfit_nI (by omega) (by omega) hfit) (ok_bnd ?_))))))
  rw [nI_clamp (n := a) (by omega), nI_clamp (n := N) (by omega)]
  refine l_rm33_f1hash fu hfu z (fun i => u0 (a + i)) N hN u0 (64 * s_nb N - N) N fu _ (by unfold s_nb; omega) (by omega) (by unfold s_nb; omega) (fun j hj => ?_)
  show (if 0 ≤ j ∧ j < 0 + N then u0 (a + (j - 0)) else u3 j) = _
  rw [if_pos (by omega), if_pos hj, Nat.sub_zero]
