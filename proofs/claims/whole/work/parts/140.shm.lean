-- the reference's sha
set_option maxHeartbeats 400000 in
theorem l_sar (x : Int64) (hx : 0 ≤ x.toInt) {k : Nat} (hk : k < 8) : x >>> (((8 : Int32) * nI k).toInt64 &&& 63) = (x.toUInt64 >>> (((8 : Int32) * nI k).toInt64.toUInt64 &&& Int64.toUInt64 63)).toInt64 := by
  have hm : x.toBitVec.msb = false := by
    rw [BitVec.msb_eq_false_iff_two_mul_lt]
    have h1 := l_toInt x
    have h2 : x.toBitVec.toNat < 2 ^ 64 := x.toBitVec.isLt
    split at h1
    · omega
    · omega
  have cs : k = 0 ∨ k = 1 ∨ k = 2 ∨ k = 3 ∨ k = 4 ∨ k = 5 ∨ k = 6 ∨ k = 7 := by omega
  rcases cs with rfl | rfl | rfl | rfl | rfl | rfl | rfl | rfl
  · exact Int64.toBitVec_inj.mp (show x.toBitVec.sshiftRight 0 = x.toBitVec >>> 0 from BitVec.sshiftRight_eq_of_msb_false hm)
  · exact Int64.toBitVec_inj.mp (show x.toBitVec.sshiftRight 8 = x.toBitVec >>> 8 from BitVec.sshiftRight_eq_of_msb_false hm)
  · exact Int64.toBitVec_inj.mp (show x.toBitVec.sshiftRight 16 = x.toBitVec >>> 16 from BitVec.sshiftRight_eq_of_msb_false hm)
  · exact Int64.toBitVec_inj.mp (show x.toBitVec.sshiftRight 24 = x.toBitVec >>> 24 from BitVec.sshiftRight_eq_of_msb_false hm)
  · exact Int64.toBitVec_inj.mp (show x.toBitVec.sshiftRight 32 = x.toBitVec >>> 32 from BitVec.sshiftRight_eq_of_msb_false hm)
  · exact Int64.toBitVec_inj.mp (show x.toBitVec.sshiftRight 40 = x.toBitVec >>> 40 from BitVec.sshiftRight_eq_of_msb_false hm)
  · exact Int64.toBitVec_inj.mp (show x.toBitVec.sshiftRight 48 = x.toBitVec >>> 48 from BitVec.sshiftRight_eq_of_msb_false hm)
  · exact Int64.toBitVec_inj.mp (show x.toBitVec.sshiftRight 56 = x.toBitVec >>> 56 from BitVec.sshiftRight_eq_of_msb_false hm)
set_option maxHeartbeats 400000 in
theorem i_24 (x : Int32) : (x &&& 255) <<< ((24 : Int32) &&& 31) = x <<< ((24 : Int32) &&& 31) := by
  apply Int32.toBitVec_inj.mp
  show (x.toBitVec &&& 255#32) <<< 24 = x.toBitVec <<< 24
  apply BitVec.eq_of_toNat_eq
  rw [BitVec.toNat_shiftLeft, BitVec.toNat_shiftLeft, BitVec.toNat_and]
  show (x.toBitVec.toNat &&& 2 ^ 8 - 1) <<< 24 % 2 ^ 32 = x.toBitVec.toNat <<< 24 % 2 ^ 32
  rw [Nat.and_two_pow_sub_one_eq_mod, Nat.shiftLeft_eq, Nat.shiftLeft_eq]
  omega
set_option maxHeartbeats 400000 in
theorem ms_wd (p : Nat → Int32) (o i : Nat) : m_wd p o i = s_wd (fun j => p (o + j)) i := by
  unfold m_wd s_wd
  rw [i_24]
  rfl
set_option maxHeartbeats 400000 in
theorem sar8 (x : Int32) {j : Nat} (hj : j < 4) : (x >>> (((24 : Int32) - ((8 : Int32) * nI j)) &&& 31)).toInt8 = ((x.toUInt32 >>> (((24 : Int32) - ((8 : Int32) * nI j)).toUInt32 &&& Int32.toUInt32 31)).toInt32).toInt8 := by
  have key : ∀ c, c ≤ 24 → (x.toBitVec.sshiftRight c).signExtend 8 = (x.toBitVec >>> c).signExtend 8 := by
    intro c hc
    apply BitVec.eq_of_getLsbD_eq
    intro i hi
    rw [BitVec.getLsbD_signExtend, BitVec.getLsbD_signExtend, if_pos (by omega), if_pos (by omega), BitVec.getLsbD_sshiftRight, BitVec.getLsbD_ushiftRight, if_pos (by omega)]
    simp only [show ¬ 32 ≤ i by omega, decide_false, Bool.not_false, Bool.true_and]
  have cs : j = 0 ∨ j = 1 ∨ j = 2 ∨ j = 3 := by omega
  rcases cs with rfl | rfl | rfl | rfl
  · exact Int8.toBitVec_inj.mp (show (x.toBitVec.sshiftRight 24).signExtend 8 = (x.toBitVec >>> 24).signExtend 8 from key 24 (by decide))
  · exact Int8.toBitVec_inj.mp (show (x.toBitVec.sshiftRight 16).signExtend 8 = (x.toBitVec >>> 16).signExtend 8 from key 16 (by decide))
  · exact Int8.toBitVec_inj.mp (show (x.toBitVec.sshiftRight 8).signExtend 8 = (x.toBitVec >>> 8).signExtend 8 from key 8 (by decide))
  · exact Int8.toBitVec_inj.mp (show (x.toBitVec.sshiftRight 0).signExtend 8 = (x.toBitVec >>> 0).signExtend 8 from key 0 (by decide))
set_option maxHeartbeats 400000 in
theorem tb14 : ∀ j, j < 8 → tb_14.getD j 0 = tb_1.getD j 0 := by decide
set_option maxHeartbeats 400000 in
theorem nI_I {n : Nat} (h : n < 2 ^ 31) : (nI n).toInt = (n : Int) := by
  rw [i_toInt, U_nI (by omega), if_pos h]
set_option maxHeartbeats 400000 in
theorem lN_I {n : Nat} (h : n < 2 ^ 63) : (lN n).toInt = (n : Int) := by
  rw [l_toInt, lN_nat (by omega), if_pos h]
set_option maxHeartbeats 400000 in
theorem iL {n : Nat} (h : n < 2 ^ 31) : (nI n).toInt64 = lN n := by
  apply Int64.toInt_inj.mp
  rw [Int32.toInt_toInt64, nI_I h, lN_I (by omega)]
set_option maxHeartbeats 400000 in
theorem lN_m (a b : Nat) : lN a * lN b = lN (a * b) := by
  apply Int64.toBitVec_inj.mp
  show BitVec.ofNat 64 a * BitVec.ofNat 64 b = BitVec.ofNat 64 (a * b)
  exact (BitVec.ofNat_mul _ _).symm
abbrev T4 : Type := (Nat → Int32) × (Nat → Int32) × (Nat → Int32) × (Nat → Int32)
set_option maxHeartbeats 400000 in
theorem l_607 (fu : Nat) (z : Nat → Int32) (n1 : Nat) (h1 : Nat → Int32) (k : Int32 → (Nat → Int32) → (Nat → Int32) → (Nat → Int32) → (Nat → Int32) → Option T4) (P : T4 → Prop) (x : Nat) (hx : x < 8) (u0 u1 u3 : Nat → Int32) (w : Nat → Int32) (hk : ∀ u2, (∀ j, u2 j = if 4 * x ≤ j ∧ j < 4 * x + 4 then s_ob u0 j else w j) → ok (k (nI (x + 1)) u0 u1 u2 u3) P) : ∀ r i n u2, i + r = 4 → r < n → (∀ j, u2 j = if 4 * x ≤ j ∧ j < 4 * x + i then s_ob u0 j else w j) → ok (x_M_sha_607 fu z n1 h1 k n (nI x) (nI i) u0 u1 u2 u3) P := by
  intro r
  induction r with
  | zero =>
    intro i n u2 hi hn h
    obtain ⟨n, rfl⟩ : ∃ m, n = m + 1 := ⟨n - 1, by omega⟩
    have : i = 4 := by omega
    subst this
    show ok (xb_M_sha_607 fu z n1 h1 k (x_M_sha_607 fu z n1 h1 k n) (nI x) (nI 4) u0 u1 u2 u3) P
    unfold xb_M_sha_607
    refine ok_t (by decide) (ok_bnd ?_)
    rw [nI_1]
    exact hk u2 h
  | succ r ih =>
    intro i n u2 hi hn h
    obtain ⟨n, rfl⟩ : ∃ m, n = m + 1 := ⟨n - 1, by omega⟩
    show ok (xb_M_sha_607 fu z n1 h1 k (x_M_sha_607 fu z n1 h1 k n) (nI x) (nI i) u0 u1 u2 u3) P
    unfold xb_M_sha_607
    have e1 : (4 : Int32) * nI x = nI (4 * x) := pk_mul 4 x
    refine ok_f (show ¬ (4 : Int32) ≤ nI i from nI_ge (b := 4) (by omega) (by decide)) (ok_bn e1 (ok_bn (nI_add (4 * x) i) (ok_gd (inb_nI (by omega) (by decide)) (ok_bnd (ok_bnd (ok_gd (inb_nI (by omega) (by decide)) (ok_bnd (ok_bnd ?_))))))))
    rw [nI_clamp (n := x) (by omega), nI_clamp (n := 4 * x + i) (by omega), nI_1, pk_vb, sar8 _ (by omega)]
    refine ih (i + 1) n _ (by omega) (by omega) (fun j => ?_)
    by_cases hj : j = 4 * x + i
    · rw [hj, pk_us, if_pos (by omega)]
      unfold s_ob
      rw [show (4 * x + i) / 4 = x by omega, show (4 * x + i) % 4 = i by omega]
    · rw [pk_un hj, h j]
      by_cases g : 4 * x ≤ j ∧ j < 4 * x + i
      · rw [if_pos g, if_pos (by omega)]
      · rw [if_neg g, if_neg (by omega)]
set_option maxHeartbeats 400000 in
theorem l_597 (fu : Nat) (hfu : 65 ≤ fu) (z : Nat → Int32) (n1 : Nat) (h1 : Nat → Int32) (u0 u1 u3 w : Nat → Int32) : ∀ r x n u2, x + r = 8 → r < n → (∀ j, u2 j = if j < 4 * x then s_ob u0 j else w j) → ok (x_M_sha_597 fu z n1 h1 n (nI x) u0 u1 u2 u3) (fun t => ∀ j, t.2.2.1 j = if j < 32 then s_ob u0 j else w j) := by
  intro r
  induction r with
  | zero =>
    intro x n u2 hi hn h
    obtain ⟨n, rfl⟩ : ∃ m, n = m + 1 := ⟨n - 1, by omega⟩
    have : x = 8 := by omega
    subst this
    show ok (xb_M_sha_597 fu z n1 h1 (x_M_sha_597 fu z n1 h1 n) (nI 8) u0 u1 u2 u3) _
    unfold xb_M_sha_597
    exact ok_t (by decide) (ok_some h)
  | succ r ih =>
    intro x n u2 hi hn h
    obtain ⟨n, rfl⟩ : ∃ m, n = m + 1 := ⟨n - 1, by omega⟩
    show ok (xb_M_sha_597 fu z n1 h1 (x_M_sha_597 fu z n1 h1 n) (nI x) u0 u1 u2 u3) _
    unfold xb_M_sha_597
    refine ok_f (show ¬ (8 : Int32) ≤ nI x from nI_ge (b := 8) (by omega) (by decide)) ?_
    refine l_607 fu z n1 h1 _ _ x (by omega) u0 u1 u3 u2 (fun u2' h' => ih (x + 1) n u2' (by omega) (by omega) (fun j => ?_)) 4 0 fu u2 (by omega) (by omega) (fun j => by rw [if_neg (by omega)])
    rw [h' j]
    by_cases g : 4 * x ≤ j ∧ j < 4 * x + 4
    · rw [if_pos g, if_pos (by omega)]
    · rw [if_neg g, h j]
      by_cases g2 : j < 4 * x
      · rw [if_pos g2, if_pos (by omega)]
      · rw [if_neg g2, if_neg (by omega)]
set_option maxHeartbeats 400000 in
theorem s_ob_c {st st' : Nat → Int32} (h : ∀ j, j < 8 → st j = st' j) {i : Nat} (hi : i < 32) : s_ob st i = s_ob st' i := by
  unfold s_ob
  rw [h (i / 4) (by omega)]
set_option maxHeartbeats 400000 in
theorem l_121 (fu : Nat) (hfu : 65 ≤ fu) (z : Nat → Int32) (n1 : Nat) (h1 : Nat → Int32) (m u2 u3 : Nat → Int32) (nb : Nat) (hnb : nb < 1500) (hm : ∀ j, j < 64 * nb → u3 j = m j) : ∀ r i n u0 u1, i + r = nb → r < n → (∀ j, j < 8 → u0 j = s_it m i j) → ok (x_M_sha_121 fu z n1 h1 n (nI nb) (nI i) u0 u1 u2 u3) (fun t => ∀ j, t.2.2.1 j = if j < 32 then s_ob (s_it m nb) j else u2 j) := by
  intro r
  induction r with
  | zero =>
    intro i n u0 u1 hi hn h
    obtain ⟨n, rfl⟩ : ∃ m, n = m + 1 := ⟨n - 1, by omega⟩
    have : i = nb := by omega
    subst this
    show ok (xb_M_sha_121 fu z n1 h1 (x_M_sha_121 fu z n1 h1 n) (nI i) (nI i) u0 u1 u2 u3) _
    unfold xb_M_sha_121
    refine ok_t (Int32.le_refl _) (ok_mono (l_597 fu hfu z n1 h1 u0 u1 u3 u2 8 0 fu u2 (by omega) (by omega) (fun j => by rw [if_neg (by omega)])) (fun t ht j => ?_))
    rw [ht j]
    by_cases g : j < 32
    · rw [if_pos g, if_pos g]; exact s_ob_c h g
    · rw [if_neg g, if_neg g]
  | succ r ih =>
    intro i n u0 u1 hi hn h
    obtain ⟨n, rfl⟩ : ∃ m, n = m + 1 := ⟨n - 1, by omega⟩
    show ok (xb_M_sha_121 fu z n1 h1 (x_M_sha_121 fu z n1 h1 n) (nI nb) (nI i) u0 u1 u2 u3) _
    unfold xb_M_sha_121
    refine ok_f (show ¬ nI nb ≤ nI i from nI_ge (by omega) (by omega)) ?_
    rw [M_sha_blk fu z n1 h1 hfu _ (nI nb) i (by omega) u0 u1 u2 u3]
    refine ih (i + 1) n _ _ (by omega) (by omega) (fun j hj => ?_)
    rw [kmc, s_cmp_s h j hj]
    show s_cmp kc (s_it m i) (m_ld u3 (64 * i) u1 16) j = s_cmp kc (s_it m i) (fun i' => s_wd (fun j => m (64 * i + j)) i') j
    rw [s_cmp_w (w' := fun i' => s_wd (fun j => m (64 * i + j)) i') (fun i' hi' => ?_)]
    rw [m_ld_at _ _ _ 16 i' hi', ms_wd]
    exact s_wd_c (fun j hj => hm (64 * i + j) (by omega)) hi'
set_option maxHeartbeats 400000 in
theorem l_65 (fu : Nat) (hfu : 1600 ≤ fu) (z : Nat → Int32) (n1 : Nat) (h1 : Nat → Int32) (m : Nat → Int32) (N : Nat) (hN : N ≤ 90000) (u0 u1 u2 w : Nat → Int32) (hw : ∀ j, j < 64 * s_nb N → w j = if j < N then m j else if j = N then -128 else 0) : ∀ r i n u3, i + r = 8 → r < n → (∀ j, u3 j = if 64 * s_nb N - i ≤ j ∧ j < 64 * s_nb N then s_lb (lN N) (64 * s_nb N - 1 - j) else w j) → ok (x_M_sha_65 fu z n1 h1 n (nI N) (nI (s_nb N)) (nI (64 * s_nb N)) (nI i) u0 u1 u2 u3) (fun t => ∀ j, t.2.2.1 j = if j < 32 then s_ob (s_sh m N) j else u2 j) := by
  have hb : 64 * s_nb N ≤ N + 72 ∧ N + 9 ≤ 64 * s_nb N := by unfold s_nb; omega
  intro r
  induction r with
  | zero =>
    intro i n u3 hi hn h
    obtain ⟨n, rfl⟩ : ∃ m, n = m + 1 := ⟨n - 1, by omega⟩
    have : i = 8 := by omega
    subst this
    show ok (xb_M_sha_65 fu z n1 h1 (x_M_sha_65 fu z n1 h1 n) (nI N) (nI (s_nb N)) (nI (64 * s_nb N)) (nI 8) u0 u1 u2 u3) _
    unfold xb_M_sha_65
    refine ok_t (by decide) (ok_gd (by decide) (ok_bnd ?_))
    refine l_121 fu (by omega) z n1 h1 (s_pd m N) u2 u3 (s_nb N) (by omega) (fun j hj => ?_) (s_nb N) 0 fu _ u1 (by omega) (by omega) (fun j hj => ?_)
    · rw [h j]
      unfold s_pd
      by_cases g : 64 * s_nb N - 8 ≤ j ∧ j < 64 * s_nb N
      · rw [if_pos g, if_neg (by omega), if_neg (by omega), if_neg (by omega)]
      · rw [if_neg g, hw j hj]
        by_cases g1 : j < N
        · rw [if_pos g1, if_pos g1]
        · rw [if_neg g1, if_neg g1]
          by_cases g2 : j = N
          · rw [if_pos g2, if_pos g2]
          · rw [if_neg g2, if_neg g2, if_pos (by omega)]
    · show (if 0 ≤ j ∧ j < 0 + 8 then tb_14.getD (0 + (j - 0)) 0 else u0 j) = tb_1.getD j 0
      rw [if_pos (by omega), Nat.zero_add, Nat.sub_zero, tb14 j hj]
  | succ r ih =>
    intro i n u3 hi hn h
    obtain ⟨n, rfl⟩ : ∃ m, n = m + 1 := ⟨n - 1, by omega⟩
    show ok (xb_M_sha_65 fu z n1 h1 (x_M_sha_65 fu z n1 h1 n) (nI N) (nI (s_nb N)) (nI (64 * s_nb N)) (nI i) u0 u1 u2 u3) _
    unfold xb_M_sha_65
    have e1 : nI (64 * s_nb N) - (1 : Int32) = nI (64 * s_nb N - 1) := pk_sub (b := 1) (by omega)
    have e2 : nI (64 * s_nb N - 1) - nI i = nI (64 * s_nb N - 1 - i) := pk_sub (by omega)
    have e3 : (8 : Int64) * (nI N).toInt64 = lN N * 8 := by
      rw [iL (by omega), Int64.mul_comm]
    have e4 : 0 ≤ (lN N * 8).toInt := by
      rw [show lN N * 8 = lN (N * 8) from lN_m N 8, lN_I (by omega)]
      omega
    refine ok_f (show ¬ (8 : Int32) ≤ nI i from nI_ge (b := 8) (by omega) (by decide)) (ok_bn e1 (ok_bn e2 (ok_bn e3 (ok_bnd (ok_gd (inb_nI (by omega) (by decide)) (ok_bnd (ok_bnd ?_)))))))
    rw [nI_clamp (n := 64 * s_nb N - 1 - i) (by omega), nI_1, pk_vb, l_sar _ e4 (by omega)]
    refine ih (i + 1) n _ (by omega) (by omega) (fun j => ?_)
    by_cases hj : j = 64 * s_nb N - 1 - i
    · rw [hj, pk_us, if_pos (by omega), show 64 * s_nb N - 1 - (64 * s_nb N - 1 - i) = i by omega]
      rfl
    · rw [pk_un hj, h j]
      by_cases g : 64 * s_nb N - i ≤ j ∧ j < 64 * s_nb N
      · rw [if_pos g, if_pos (by omega)]
      · rw [if_neg g, if_neg (by omega)]
set_option maxHeartbeats 400000 in
theorem l_33 (fu : Nat) (hfu : 1600 ≤ fu) (z : Nat → Int32) (n1 : Nat) (h1 : Nat → Int32) (m : Nat → Int32) (N : Nat) (hN : N ≤ 90000) (u0 u1 u2 : Nat → Int32) : ∀ r i n u3, i + r = 64 * s_nb N → N ≤ i → r < n → (∀ j, j < i → u3 j = if j < N then m j else 0) → ok (x_M_sha_33 fu z n1 h1 n (nI N) (nI (s_nb N)) (nI (64 * s_nb N)) (nI i) u0 u1 u2 u3) (fun t => ∀ j, t.2.2.1 j = if j < 32 then s_ob (s_sh m N) j else u2 j) := by
  have hb : 64 * s_nb N ≤ N + 72 ∧ N + 9 ≤ 64 * s_nb N := by unfold s_nb; omega
  intro r
  induction r with
  | zero =>
    intro i n u3 hi hNi hn h
    obtain ⟨n, rfl⟩ : ∃ m, n = m + 1 := ⟨n - 1, by omega⟩
    have : i = 64 * s_nb N := by omega
    subst this
    show ok (xb_M_sha_33 fu z n1 h1 (x_M_sha_33 fu z n1 h1 n) (nI N) (nI (s_nb N)) (nI (64 * s_nb N)) (nI (64 * s_nb N)) u0 u1 u2 u3) _
    unfold xb_M_sha_33
    refine ok_t (Int32.le_refl _) (ok_gd (inb_nI (by omega) (by decide)) (ok_bnd ?_))
    rw [nI_clamp (n := N) (by omega), nar80]
    refine l_65 fu hfu z n1 h1 m N hN u0 u1 u2 (upd u3 N (-128)) (fun j hj => ?_) 8 0 fu _ (by omega) (by omega) (fun j => by rw [if_neg (by omega)])
    by_cases hj2 : j = N
    · rw [hj2, pk_us, if_neg (by omega), if_pos rfl]
    · rw [pk_un hj2, h j hj]
      by_cases g : j < N
      · rw [if_pos g, if_pos g]
      · rw [if_neg g, if_neg g, if_neg hj2]
  | succ r ih =>
    intro i n u3 hi hNi hn h
    obtain ⟨n, rfl⟩ : ∃ m, n = m + 1 := ⟨n - 1, by omega⟩
    show ok (xb_M_sha_33 fu z n1 h1 (x_M_sha_33 fu z n1 h1 n) (nI N) (nI (s_nb N)) (nI (64 * s_nb N)) (nI i) u0 u1 u2 u3) _
    unfold xb_M_sha_33
    refine ok_f (show ¬ nI (64 * s_nb N) ≤ nI i from nI_ge (by omega) (by omega)) (ok_gd (inb_nI (by omega) (by decide)) (ok_bnd (ok_bnd ?_)))
    rw [nI_clamp (n := i) (by omega), nI_1, nar0]
    refine ih (i + 1) n _ (by omega) (by omega) (by omega) (fun j hj => ?_)
    by_cases hj2 : j = i
    · rw [hj2, pk_us, if_neg (by omega)]
    · rw [pk_un hj2, h j (by omega)]
set_option maxHeartbeats 400000 in
/-- the reference's sha is the same one -/
theorem v_M_sha (fu : Nat) (hfu : 1600 ≤ fu) (z : Nat → Int32) (n1 : Nat) (h1 : Nat → Int32) (hn1 : n1 < 2 ^ 31) {a N : Nat} (hN : N ≤ 90000) (ha : a + N ≤ n1) (u0 u1 u2 u3 : Nat → Int32) (hfit : ∀ j, j < N → fits .byte (.int (h1 (a + j))) = true) : ok (x_M_sha fu z n1 h1 (nI a) (nI N) u0 u1 u2 u3) (fun t => ∀ j, t.2.2.1 j = if j < 32 then s_ob (s_sh (fun i => h1 (a + i)) N) j else u2 j) := by
  unfold x_M_sha
  have e1 : nI N + (9 : Int32) = nI (N + 9) := nI_add N 9
  have e2 : nI (N + 9) + (63 : Int32) = nI (N + 72) := nI_add (N + 9) 63
  have e3 : nI (N + 72) / (64 : Int32) = nI (s_nb N) := pk_div (d := 64) (by omega) (by decide) (by decide)
  have e4 : (64 : Int32) * nI (s_nb N) = nI (64 * s_nb N) := pk_mul 64 (s_nb N)
  refine ok_bn e1 (ok_bn e2 (ok_bn e3 (ok_bn e4 (ok_gd (cpk_nI (b := 0) (by omega) (by omega) (by omega) (by decide)) (ok_gd (bfit_nI (by omega) (by omega) hfit) (ok_bnd ?_))))))
  rw [nI_clamp (n := a) (by omega), nI_clamp (n := N) (by omega)]
  refine l_33 fu hfu z n1 h1 (fun i => h1 (a + i)) N hN u0 u1 u2 (64 * s_nb N - N) N fu _ (by unfold s_nb; omega) (by omega) (by unfold s_nb; omega) (fun j hj => ?_)
  show (if 0 ≤ j ∧ j < 0 + N then h1 (a + (j - 0)) else u3 j) = _
  rw [if_pos (by omega), if_pos hj, Nat.sub_zero]
set_option maxHeartbeats 400000 in
theorem l_607_f1hash (fu : Nat) (z : Nat → Int32) (k : Int32 → (Nat → Int32) → (Nat → Int32) → (Nat → Int32) → (Nat → Int32) → Option T4) (P : T4 → Prop) (x : Nat) (hx : x < 8) (u0 u1 u3 : Nat → Int32) (w : Nat → Int32) (hk : ∀ u2, (∀ j, u2 j = if 4 * x ≤ j ∧ j < 4 * x + 4 then s_ob u0 j else w j) → ok (k (nI (x + 1)) u0 u1 u2 u3) P) : ∀ r i n u2, i + r = 4 → r < n → (∀ j, u2 j = if 4 * x ≤ j ∧ j < 4 * x + i then s_ob u0 j else w j) → ok (x_M_sha_f1hash_607 fu z k n (nI x) (nI i) u0 u1 u2 u3) P := by
  intro r
  induction r with
  | zero =>
    intro i n u2 hi hn h
    obtain ⟨n, rfl⟩ : ∃ m, n = m + 1 := ⟨n - 1, by omega⟩
    have : i = 4 := by omega
    subst this
    show ok (xb_M_sha_f1hash_607 fu z k (x_M_sha_f1hash_607 fu z k n) (nI x) (nI 4) u0 u1 u2 u3) P
    unfold xb_M_sha_f1hash_607
    refine ok_t (by decide) (ok_bnd ?_)
    rw [nI_1]
    exact hk u2 h
  | succ r ih =>
    intro i n u2 hi hn h
    obtain ⟨n, rfl⟩ : ∃ m, n = m + 1 := ⟨n - 1, by omega⟩
    show ok (xb_M_sha_f1hash_607 fu z k (x_M_sha_f1hash_607 fu z k n) (nI x) (nI i) u0 u1 u2 u3) P
    unfold xb_M_sha_f1hash_607
    have e1 : (4 : Int32) * nI x = nI (4 * x) := pk_mul 4 x
    refine ok_f (show ¬ (4 : Int32) ≤ nI i from nI_ge (b := 4) (by omega) (by decide)) (ok_bn e1 (ok_bn (nI_add (4 * x) i) (ok_gd (inb_nI (by omega) (by decide)) (ok_bnd (ok_bnd (ok_gd (inb_nI (by omega) (by decide)) (ok_bnd (ok_bnd ?_))))))))
    rw [nI_clamp (n := x) (by omega), nI_clamp (n := 4 * x + i) (by omega), nI_1, pk_vb, sar8 _ (by omega)]
    refine ih (i + 1) n _ (by omega) (by omega) (fun j => ?_)
    by_cases hj : j = 4 * x + i
    · rw [hj, pk_us, if_pos (by omega)]
      unfold s_ob
      rw [show (4 * x + i) / 4 = x by omega, show (4 * x + i) % 4 = i by omega]
    · rw [pk_un hj, h j]
      by_cases g : 4 * x ≤ j ∧ j < 4 * x + i
      · rw [if_pos g, if_pos (by omega)]
      · rw [if_neg g, if_neg (by omega)]
set_option maxHeartbeats 400000 in
theorem l_597_f1hash (fu : Nat) (hfu : 65 ≤ fu) (z : Nat → Int32) (u0 u1 u3 w : Nat → Int32) : ∀ r x n u2, x + r = 8 → r < n → (∀ j, u2 j = if j < 4 * x then s_ob u0 j else w j) → ok (x_M_sha_f1hash_597 fu z n (nI x) u0 u1 u2 u3) (fun t => ∀ j, t.2.2.1 j = if j < 32 then s_ob u0 j else w j) := by
  intro r
  induction r with
  | zero =>
    intro x n u2 hi hn h
    obtain ⟨n, rfl⟩ : ∃ m, n = m + 1 := ⟨n - 1, by omega⟩
    have : x = 8 := by omega
    subst this
    show ok (xb_M_sha_f1hash_597 fu z (x_M_sha_f1hash_597 fu z n) (nI 8) u0 u1 u2 u3) _
    unfold xb_M_sha_f1hash_597
    exact ok_t (by decide) (ok_some h)
  | succ r ih =>
    intro x n u2 hi hn h
    obtain ⟨n, rfl⟩ : ∃ m, n = m + 1 := ⟨n - 1, by omega⟩
    show ok (xb_M_sha_f1hash_597 fu z (x_M_sha_f1hash_597 fu z n) (nI x) u0 u1 u2 u3) _
    unfold xb_M_sha_f1hash_597
    refine ok_f (show ¬ (8 : Int32) ≤ nI x from nI_ge (b := 8) (by omega) (by decide)) ?_
    refine l_607_f1hash fu z _ _ x (by omega) u0 u1 u3 u2 (fun u2' h' => ih (x + 1) n u2' (by omega) (by omega) (fun j => ?_)) 4 0 fu u2 (by omega) (by omega) (fun j => by rw [if_neg (by omega)])
    rw [h' j]
    by_cases g : 4 * x ≤ j ∧ j < 4 * x + 4
    · rw [if_pos g, if_pos (by omega)]
    · rw [if_neg g, h j]
      by_cases g2 : j < 4 * x
      · rw [if_pos g2, if_pos (by omega)]
      · rw [if_neg g2, if_neg (by omega)]
set_option maxHeartbeats 400000 in
theorem l_121_f1hash (fu : Nat) (hfu : 65 ≤ fu) (z : Nat → Int32) (m u2 u3 : Nat → Int32) (nb : Nat) (hnb : nb < 1500) (hm : ∀ j, j < 64 * nb → u3 j = m j) : ∀ r i n u0 u1, i + r = nb → r < n → (∀ j, j < 8 → u0 j = s_it m i j) → ok (x_M_sha_f1hash_121 fu z n (nI nb) (nI i) u0 u1 u2 u3) (fun t => ∀ j, t.2.2.1 j = if j < 32 then s_ob (s_it m nb) j else u2 j) := by
  intro r
  induction r with
  | zero =>
    intro i n u0 u1 hi hn h
    obtain ⟨n, rfl⟩ : ∃ m, n = m + 1 := ⟨n - 1, by omega⟩
    have : i = nb := by omega
    subst this
    show ok (xb_M_sha_f1hash_121 fu z (x_M_sha_f1hash_121 fu z n) (nI i) (nI i) u0 u1 u2 u3) _
    unfold xb_M_sha_f1hash_121
    refine ok_t (Int32.le_refl _) (ok_mono (l_597_f1hash fu hfu z u0 u1 u3 u2 8 0 fu u2 (by omega) (by omega) (fun j => by rw [if_neg (by omega)])) (fun t ht j => ?_))
    rw [ht j]
    by_cases g : j < 32
    · rw [if_pos g, if_pos g]; exact s_ob_c h g
    · rw [if_neg g, if_neg g]
  | succ r ih =>
    intro i n u0 u1 hi hn h
    obtain ⟨n, rfl⟩ : ∃ m, n = m + 1 := ⟨n - 1, by omega⟩
    show ok (xb_M_sha_f1hash_121 fu z (x_M_sha_f1hash_121 fu z n) (nI nb) (nI i) u0 u1 u2 u3) _
    unfold xb_M_sha_f1hash_121
    refine ok_f (show ¬ nI nb ≤ nI i from nI_ge (by omega) (by omega)) ?_
    rw [M_sha_f1hash_blk fu z hfu _ (nI nb) i (by omega) u0 u1 u2 u3]
    refine ih (i + 1) n _ _ (by omega) (by omega) (fun j hj => ?_)
    rw [kmc, s_cmp_s h j hj]
    show s_cmp kc (s_it m i) (m_ld u3 (64 * i) u1 16) j = s_cmp kc (s_it m i) (fun i' => s_wd (fun j => m (64 * i + j)) i') j
    rw [s_cmp_w (w' := fun i' => s_wd (fun j => m (64 * i + j)) i') (fun i' hi' => ?_)]
    rw [m_ld_at _ _ _ 16 i' hi', ms_wd]
    exact s_wd_c (fun j hj => hm (64 * i + j) (by omega)) hi'
set_option maxHeartbeats 400000 in
theorem l_65_f1hash (fu : Nat) (hfu : 1600 ≤ fu) (z : Nat → Int32) (m : Nat → Int32) (N : Nat) (hN : N ≤ 90000) (u0 u1 u2 w : Nat → Int32) (hw : ∀ j, j < 64 * s_nb N → w j = if j < N then m j else if j = N then -128 else 0) : ∀ r i n u3, i + r = 8 → r < n → (∀ j, u3 j = if 64 * s_nb N - i ≤ j ∧ j < 64 * s_nb N then s_lb (lN N) (64 * s_nb N - 1 - j) else w j) → ok (x_M_sha_f1hash_65 fu z n (nI N) (nI (s_nb N)) (nI (64 * s_nb N)) (nI i) u0 u1 u2 u3) (fun t => ∀ j, t.2.2.1 j = if j < 32 then s_ob (s_sh m N) j else u2 j) := by
  have hb : 64 * s_nb N ≤ N + 72 ∧ N + 9 ≤ 64 * s_nb N := by unfold s_nb; omega
  intro r
  induction r with
  | zero =>
    intro i n u3 hi hn h
    obtain ⟨n, rfl⟩ : ∃ m, n = m + 1 := ⟨n - 1, by omega⟩
    have : i = 8 := by omega
    subst this
    show ok (xb_M_sha_f1hash_65 fu z (x_M_sha_f1hash_65 fu z n) (nI N) (nI (s_nb N)) (nI (64 * s_nb N)) (nI 8) u0 u1 u2 u3) _
    unfold xb_M_sha_f1hash_65
    refine ok_t (by decide) (ok_gd (by decide) (ok_bnd ?_))
    refine l_121_f1hash fu (by omega) z (s_pd m N) u2 u3 (s_nb N) (by omega) (fun j hj => ?_) (s_nb N) 0 fu _ u1 (by omega) (by omega) (fun j hj => ?_)
    · rw [h j]
      unfold s_pd
      by_cases g : 64 * s_nb N - 8 ≤ j ∧ j < 64 * s_nb N
      · rw [if_pos g, if_neg (by omega), if_neg (by omega), if_neg (by omega)]
      · rw [if_neg g, hw j hj]
        by_cases g1 : j < N
        · rw [if_pos g1, if_pos g1]
        · rw [if_neg g1, if_neg g1]
          by_cases g2 : j = N
          · rw [if_pos g2, if_pos g2]
          · rw [if_neg g2, if_neg g2, if_pos (by omega)]
    · show (if 0 ≤ j ∧ j < 0 + 8 then tb_14.getD (0 + (j - 0)) 0 else u0 j) = tb_1.getD j 0
      rw [if_pos (by omega), Nat.zero_add, Nat.sub_zero, tb14 j hj]
  | succ r ih =>
    intro i n u3 hi hn h
    obtain ⟨n, rfl⟩ : ∃ m, n = m + 1 := ⟨n - 1, by omega⟩
    show ok (xb_M_sha_f1hash_65 fu z (x_M_sha_f1hash_65 fu z n) (nI N) (nI (s_nb N)) (nI (64 * s_nb N)) (nI i) u0 u1 u2 u3) _
    unfold xb_M_sha_f1hash_65
    have e1 : nI (64 * s_nb N) - (1 : Int32) = nI (64 * s_nb N - 1) := pk_sub (b := 1) (by omega)
    have e2 : nI (64 * s_nb N - 1) - nI i = nI (64 * s_nb N - 1 - i) := pk_sub (by omega)
    have e3 : (8 : Int64) * (nI N).toInt64 = lN N * 8 := by
      rw [iL (by omega), Int64.mul_comm]
    have e4 : 0 ≤ (lN N * 8).toInt := by
      rw [show lN N * 8 = lN (N * 8) from lN_m N 8, lN_I (by omega)]
      omega
    refine ok_f (show ¬ (8 : Int32) ≤ nI i from nI_ge (b := 8) (by omega) (by decide)) (ok_bn e1 (ok_bn e2 (ok_bn e3 (ok_bnd (ok_gd (inb_nI (by omega) (by decide)) (ok_bnd (ok_bnd ?_)))))))
    rw [nI_clamp (n := 64 * s_nb N - 1 - i) (by omega), nI_1, pk_vb, l_sar _ e4 (by omega)]
    refine ih (i + 1) n _ (by omega) (by omega) (fun j => ?_)
    by_cases hj : j = 64 * s_nb N - 1 - i
    · rw [hj, pk_us, if_pos (by omega), show 64 * s_nb N - 1 - (64 * s_nb N - 1 - i) = i by omega]
      rfl
    · rw [pk_un hj, h j]
      by_cases g : 64 * s_nb N - i ≤ j ∧ j < 64 * s_nb N
      · rw [if_pos g, if_pos (by omega)]
      · rw [if_neg g, if_neg (by omega)]
set_option maxHeartbeats 400000 in
theorem l_33_f1hash (fu : Nat) (hfu : 1600 ≤ fu) (z : Nat → Int32) (m : Nat → Int32) (N : Nat) (hN : N ≤ 90000) (u0 u1 u2 : Nat → Int32) : ∀ r i n u3, i + r = 64 * s_nb N → N ≤ i → r < n → (∀ j, j < i → u3 j = if j < N then m j else 0) → ok (x_M_sha_f1hash_33 fu z n (nI N) (nI (s_nb N)) (nI (64 * s_nb N)) (nI i) u0 u1 u2 u3) (fun t => ∀ j, t.2.2.1 j = if j < 32 then s_ob (s_sh m N) j else u2 j) := by
  have hb : 64 * s_nb N ≤ N + 72 ∧ N + 9 ≤ 64 * s_nb N := by unfold s_nb; omega
  intro r
  induction r with
  | zero =>
    intro i n u3 hi hNi hn h
    obtain ⟨n, rfl⟩ : ∃ m, n = m + 1 := ⟨n - 1, by omega⟩
    have : i = 64 * s_nb N := by omega
    subst this
    show ok (xb_M_sha_f1hash_33 fu z (x_M_sha_f1hash_33 fu z n) (nI N) (nI (s_nb N)) (nI (64 * s_nb N)) (nI (64 * s_nb N)) u0 u1 u2 u3) _
    unfold xb_M_sha_f1hash_33
    refine ok_t (Int32.le_refl _) (ok_gd (inb_nI (by omega) (by decide)) (ok_bnd ?_))
    rw [nI_clamp (n := N) (by omega), nar80]
    refine l_65_f1hash fu hfu z m N hN u0 u1 u2 (upd u3 N (-128)) (fun j hj => ?_) 8 0 fu _ (by omega) (by omega) (fun j => by rw [if_neg (by omega)])
    by_cases hj2 : j = N
    · rw [hj2, pk_us, if_neg (by omega), if_pos rfl]
    · rw [pk_un hj2, h j hj]
      by_cases g : j < N
      · rw [if_pos g, if_pos g]
      · rw [if_neg g, if_neg g, if_neg hj2]
  | succ r ih =>
    intro i n u3 hi hNi hn h
    obtain ⟨n, rfl⟩ : ∃ m, n = m + 1 := ⟨n - 1, by omega⟩
    show ok (xb_M_sha_f1hash_33 fu z (x_M_sha_f1hash_33 fu z n) (nI N) (nI (s_nb N)) (nI (64 * s_nb N)) (nI i) u0 u1 u2 u3) _
    unfold xb_M_sha_f1hash_33
    refine ok_f (show ¬ nI (64 * s_nb N) ≤ nI i from nI_ge (by omega) (by omega)) (ok_gd (inb_nI (by omega) (by decide)) (ok_bnd (ok_bnd ?_)))
    rw [nI_clamp (n := i) (by omega), nI_1, nar0]
    refine ih (i + 1) n _ (by omega) (by omega) (by omega) (fun j hj => ?_)
    by_cases hj2 : j = i
    · rw [hj2, pk_us, if_neg (by omega)]
    · rw [pk_un hj2, h j (by omega)]
set_option maxHeartbeats 400000 in
/-- the reference's sha is the same one -/
theorem v_M_sha_f1hash (fu : Nat) (hfu : 1600 ≤ fu) (z : Nat → Int32) {a N : Nat} (hN : N ≤ 90000) (ha : a + N ≤ 32) (u0 u1 u2 u3 : Nat → Int32) (hfit : ∀ j, j < N → fits .byte (.int (u2 (a + j))) = true) : ok (x_M_sha_f1hash fu z (nI a) (nI N) u0 u1 u2 u3) (fun t => ∀ j, t.2.2.1 j = if j < 32 then s_ob (s_sh (fun i => u2 (a + i)) N) j else u2 j) := by
  unfold x_M_sha_f1hash
  have e1 : nI N + (9 : Int32) = nI (N + 9) := nI_add N 9
  have e2 : nI (N + 9) + (63 : Int32) = nI (N + 72) := nI_add (N + 9) 63
  have e3 : nI (N + 72) / (64 : Int32) = nI (s_nb N) := pk_div (d := 64) (by omega) (by decide) (by decide)
  have e4 : (64 : Int32) * nI (s_nb N) = nI (64 * s_nb N) := pk_mul 64 (s_nb N)
  refine ok_bn e1 (ok_bn e2 (ok_bn e3 (ok_bn e4 (ok_gd (cpk_nI (b := 0) (by omega) (by omega) (by decide) (by decide)) (ok_gd (bfit_nI (by omega) (by omega) hfit) (ok_bnd ?_))))))
  rw [nI_clamp (n := a) (by omega), nI_clamp (n := N) (by omega)]
  refine l_33_f1hash fu hfu z (fun i => u2 (a + i)) N hN u0 u1 u2 (64 * s_nb N - N) N fu _ (by unfold s_nb; omega) (by omega) (by unfold s_nb; omega) (fun j hj => ?_)
  show (if 0 ≤ j ∧ j < 0 + N then u2 (a + (j - 0)) else u3 j) = _
  rw [if_pos (by omega), if_pos hj, Nat.sub_zero]
