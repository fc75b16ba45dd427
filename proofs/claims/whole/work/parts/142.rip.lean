-- ripemd of both sides
set_option maxHeartbeats 400000 in
theorem stf_eta (v : S5) : (stf v 0, stf v 1, stf v 2, stf v 3, stf v 4) = v := rfl
abbrev T5 : Type := (Nat → Int32) × (Nat → Int32) × (Nat → Int32) × (Nat → Int32) × (Nat → Int32)
set_option maxHeartbeats 400000 in
theorem cs5 {j : Nat} (h : j < 5) : j = 0 ∨ j = 1 ∨ j = 2 ∨ j = 3 ∨ j = 4 := by omega
set_option maxHeartbeats 400000 in
theorem l_ri66 (fu : Nat) (hfu : 100 ≤ fu) (n1 : Nat) (K : Int32 → Int32 → Int32 → Int32 → Int32 → (Nat → Int32) → (Nat → Int32) → (Nat → Int32) → (Nat → Int32) → (Nat → Int32) → Option T5) (P : T5 → Prop) (x2 x3 x5 x6 : Int32) (m : Nat → Int32) (N q : Nat) (u0 u1 u2 u3 u4 : Nat → Int32) (h0 : ∀ j, j < 5 → u0 j = stf (r_it m N q) j) (h3 : ∀ i, i < 16 → u3 i = r_w m N q i) (hk : ∀ f f1 f2, (∀ j, j < 5 → f j = stf (r_it m N (q + 1)) j) → ok (K x2 x3 x5 x6 (nI (q + 1)) f f1 f2 u3 u4) P) : ok (xb_Ri_once_e41_66 fu n1 K x2 x3 x5 x6 (nI q) u0 u1 u2 u3 u4) P := by
  unfold xb_Ri_once_e41_66
  refine ok_bd1 (v_tnL fu hfu u0 u3 u1) (fun f1 hf1 => ok_bd1 (v_tnR fu hfu u0 u3 u2) (fun f2 hf2 => ?_))
  have e0 : (u0 0, u0 1, u0 2, u0 3, u0 4) = r_it m N q := by
    rw [h0 0 (by decide), h0 1 (by decide), h0 2 (by decide), h0 3 (by decide), h0 4 (by decide), stf_eta]
  rw [e0, r_ln_c (w' := r_w m N q) (fun i hi => h3 _ (r_16a i hi)) 80 (by decide)] at hf1
  rw [e0, r_ln_c (w' := r_w m N q) (fun i hi => h3 _ (r_16b i hi)) 80 (by decide)] at hf2
  have e : r_it m N (q + 1) = r_cb (r_it m N q) (r_ln 0 tb_8 tb_9 tb_10 (r_w m N q) (r_it m N q) 80) (r_ln 4 tb_11 tb_12 tb_13 (r_w m N q) (r_it m N q) 80) := rfl
  rw [e] at hk
  generalize r_ln 0 tb_8 tb_9 tb_10 (r_w m N q) (r_it m N q) 80 = V at *
  generalize r_ln 4 tb_11 tb_12 tb_13 (r_w m N q) (r_it m N q) 80 = W at *
  generalize r_it m N q = H at *
  refine ok_bnd (ok_bnd (ok_bnd (ok_bnd (ok_bnd (ok_bnd (ok_bnd (ok_bnd (ok_bnd (ok_bnd (ok_bnd (ok_bnd (ok_bnd (ok_bnd (ok_bnd (ok_bnd (ok_bnd (ok_bnd (ok_bnd (ok_bnd (ok_bnd (ok_bnd (ok_bnd (ok_bnd (ok_bnd (ok_bnd (ok_bnd (ok_bnd (ok_bnd (ok_bnd (ok_bnd ?_))))))))))))))))))))))))))))))
  rw [nI_1]
  refine hk _ f1 f2 (fun j hj => ?_)
  rcases cs5 hj with rfl | rfl | rfl | rfl | rfl
  · show u0 1 + f1 2 + f2 3 = _
    rw [h0 1 (by decide), hf1 2 (by decide), hf2 3 (by decide)]; rfl
  · show u0 2 + f1 3 + f2 4 = _
    rw [h0 2 (by decide), hf1 3 (by decide), hf2 4 (by decide)]; rfl
  · show u0 3 + f1 4 + f2 0 = _
    rw [h0 3 (by decide), hf1 4 (by decide), hf2 0 (by decide)]; rfl
  · show u0 4 + f1 0 + f2 1 = _
    rw [h0 4 (by decide), hf1 0 (by decide), hf2 1 (by decide)]; rfl
  · show u0 0 + f1 1 + f2 2 = _
    rw [h0 0 (by decide), hf1 1 (by decide), hf2 2 (by decide)]; rfl
set_option maxHeartbeats 400000 in
theorem l_ri245 (fu n1 : Nat) (hn1 : n1 < 2 ^ 30) {o : Nat} (ho : o + 20 ≤ n1) (v : S5) (u0 u1 u2 u3 w : Nat → Int32) (h0 : ∀ j, j < 5 → u0 j = stf v j) : ∀ r i n u4, i + r = 20 → r < n → (∀ j, u4 j = if o ≤ j ∧ j < o + i then r_ob v (j - o) else w j) → ok (x_Ri_once_e41_245 fu n1 n (nI o) (nI i) u0 u1 u2 u3 u4) (fun t => ∀ j, t.2.2.2.2 j = if o ≤ j ∧ j < o + 20 then r_ob v (j - o) else w j) := by
  intro r
  induction r with
  | zero =>
    intro i n u4 hi hn h
    obtain ⟨n, rfl⟩ : ∃ m, n = m + 1 := ⟨n - 1, by omega⟩
    have : i = 20 := by omega
    subst this
    show ok (xb_Ri_once_e41_245 fu n1 (x_Ri_once_e41_245 fu n1 n) (nI o) (nI 20) u0 u1 u2 u3 u4) _
    unfold xb_Ri_once_e41_245
    exact ok_t (by decide) (ok_some h)
  | succ r ih =>
    intro i n u4 hi hn h
    obtain ⟨n, rfl⟩ : ∃ m, n = m + 1 := ⟨n - 1, by omega⟩
    show ok (xb_Ri_once_e41_245 fu n1 (x_Ri_once_e41_245 fu n1 n) (nI o) (nI i) u0 u1 u2 u3 u4) _
    unfold xb_Ri_once_e41_245
    have e1 : nI i >>> ((2 : Int32) &&& 31) = nI (i / 4) := pk_shrN (n := i) (by omega) ((2 : Int32) &&& 31) 2 (by decide)
    have e2 : nI i &&& (3 : Int32) = nI (i % 4) := pk_andN (n := i) (by omega) 2 (by decide)
    refine ok_f (show ¬ (20 : Int32) ≤ nI i from nI_ge (b := 20) (by omega) (by decide)) (ok_bn (nI_add o i) (ok_bn e1 (ok_gd (inb_nI (by omega) (by decide)) (ok_bnd (ok_bnd (ok_gd (inb_nI (by omega) (by omega)) (ok_bnd (ok_bnd ?_))))))))
    rw [nI_clamp (n := i / 4) (by omega), nI_clamp (n := o + i) (by omega), nI_1, pk_vb, e2]
    refine ih (i + 1) n _ (by omega) (by omega) (fun j => ?_)
    by_cases g : j = o + i
    · rw [g, pk_us, if_pos (by omega), show o + i - o = i by omega, h0 (i / 4) (by omega)]
      rfl
    · rw [pk_un g, h j]
      by_cases g2 : o ≤ j ∧ j < o + i
      · rw [if_pos g2, if_pos (by omega)]
      · rw [if_neg g2, if_neg (by omega)]
set_option maxHeartbeats 400000 in
theorem By_i8 (X : Nat) : By ((lN X).toInt32.toInt8.toInt32) = X % 256 := by
  unfold By U
  show ((((BitVec.ofNat 64 X).signExtend 32).signExtend 8).signExtend 32).toNat % 256 = X % 256
  have e1 : (BitVec.ofNat 64 X).signExtend 32 = BitVec.ofNat 32 X := by
    rw [BitVec.signExtend_eq_setWidth_of_le _ (by decide)]
    apply BitVec.eq_of_toNat_eq
    rw [BitVec.toNat_setWidth, BitVec.toNat_ofNat, BitVec.toNat_ofNat]
    omega
  have e2 : (BitVec.ofNat 32 X).signExtend 8 = BitVec.ofNat 8 X := by
    rw [BitVec.signExtend_eq_setWidth_of_le _ (by decide)]
    apply BitVec.eq_of_toNat_eq
    rw [BitVec.toNat_setWidth, BitVec.toNat_ofNat, BitVec.toNat_ofNat]
    omega
  rw [e1, e2, BitVec.toNat_signExtend, BitVec.toNat_setWidth, BitVec.toNat_ofNat]
  split <;> omega
set_option maxHeartbeats 400000 in
/-- the length's bytes -/
theorem By_lb {N k : Nat} (hN : N < 2 ^ 28) (hk : k < 8) : By (s_lb (lN N) k) = N * 8 / 2 ^ (8 * k) % 256 := by
  have e1 : lN N * 8 = lN (N * 8) := lN_m N 8
  have e2 : 0 ≤ (lN (N * 8)).toInt := by rw [lN_I (by omega)]; omega
  have hs : ∀ k, k < 8 → ((((8 : Int32) * nI k).toInt64 &&& 63).toBitVec.smod 64).toNat = 8 * k := by decide
  have h1 : (lN (N * 8) >>> (((8 : Int32) * nI k).toInt64 &&& 63)) = lN (N * 8 / 2 ^ (8 * k)) := by
    apply Int64.toInt_inj.mp
    have h2 : (lN (N * 8) >>> (((8 : Int32) * nI k).toInt64 &&& 63)).toInt = (lN (N * 8)).toInt >>> ((((8 : Int32) * nI k).toInt64 &&& 63).toBitVec.smod 64).toNat := by
      show (BitVec.sshiftRight _ _).toInt = _
      rw [BitVec.toInt_sshiftRight]
      rfl
    rw [h2, hs k hk, lN_I (by omega), lN_I (Nat.lt_of_le_of_lt (Nat.div_le_self _ _) (by omega)), Int.shiftRight_eq_div_pow]
    rfl
  unfold s_lb
  rw [e1, ← l_sar _ e2 hk, h1]
  have hq : N * 8 / 2 ^ (8 * k) < 2 ^ 31 := Nat.lt_of_le_of_lt (Nat.div_le_self _ _) (by omega)
  generalize N * 8 / 2 ^ (8 * k) = X at *
  exact By_i8 X
set_option maxHeartbeats 400000 in
theorem w_pd {m : Nat → Int32} {N : Nat} (hN : N ≤ 90000) {q i : Nat} (hq : q < s_nb N) (hi : i < 16) : r_w m N q i = if q + 1 = s_nb N ∧ i = 14 then nI (8 * N) else nI (leP (r_p0 m N) (64 * q + 4 * i) 4) := by
  have hb : 64 * s_nb N ≤ N + 72 ∧ N + 9 ≤ 64 * s_nb N := by unfold s_nb; omega
  unfold r_w
  by_cases g : q + 1 = s_nb N ∧ 14 ≤ i
  · have hlb : ∀ j, j < 4 → r_pd m N (64 * q + 4 * i + j) = s_lb (lN N) (4 * (i - 14) + j) := by
      intro j hj
      unfold r_pd
      rw [if_neg (by omega)]
      congr 1
      omega
    have e : leP (r_pd m N) (64 * q + 4 * i) 4 = N * 8 / 2 ^ (8 * (4 * (i - 14))) % 256 + N * 8 / 2 ^ (8 * (4 * (i - 14) + 1)) % 256 * 2 ^ 8 + N * 8 / 2 ^ (8 * (4 * (i - 14) + 2)) % 256 * 2 ^ 16 + N * 8 / 2 ^ (8 * (4 * (i - 14) + 3)) % 256 * 2 ^ 24 := by
      show 0 + By (r_pd m N (64 * q + 4 * i + 0)) * 2 ^ 0 + By (r_pd m N (64 * q + 4 * i + 1)) * 2 ^ 8 + By (r_pd m N (64 * q + 4 * i + 2)) * 2 ^ 16 + By (r_pd m N (64 * q + 4 * i + 3)) * 2 ^ 24 = _
      rw [hlb 0 (by decide), hlb 1 (by decide), hlb 2 (by decide), hlb 3 (by decide), By_lb (by omega) (by omega), By_lb (by omega) (by omega), By_lb (by omega) (by omega), By_lb (by omega) (by omega)]
      rw [Nat.pow_zero, Nat.mul_one, Nat.zero_add]
      rfl
    have cs : i = 14 ∨ i = 15 := by omega
    rcases cs with rfl | rfl
    · rw [if_pos ⟨g.1, rfl⟩, e]
      congr 1
      show N * 8 / 2 ^ 0 % 256 + N * 8 / 2 ^ 8 % 256 * 2 ^ 8 + N * 8 / 2 ^ 16 % 256 * 2 ^ 16 + N * 8 / 2 ^ 24 % 256 * 2 ^ 24 = 8 * N
      omega
    · rw [if_neg (by omega), e]
      congr 1
      have z : leP (r_p0 m N) (64 * q + 4 * 15) 4 = 0 := by
        have hz : ∀ j, j < 4 → r_p0 m N (64 * q + 4 * 15 + j) = 0 := fun j hj => by
          unfold r_p0
          rw [if_neg (by omega), if_neg (by omega)]
        show 0 + By (r_p0 m N (64 * q + 4 * 15 + 0)) * 2 ^ 0 + By (r_p0 m N (64 * q + 4 * 15 + 1)) * 2 ^ 8 + By (r_p0 m N (64 * q + 4 * 15 + 2)) * 2 ^ 16 + By (r_p0 m N (64 * q + 4 * 15 + 3)) * 2 ^ 24 = 0
        rw [hz 0 (by decide), hz 1 (by decide), hz 2 (by decide), hz 3 (by decide), By_0]
      rw [z]
      show N * 8 / 2 ^ 32 % 256 + N * 8 / 2 ^ 40 % 256 * 2 ^ 8 + N * 8 / 2 ^ 48 % 256 * 2 ^ 16 + N * 8 / 2 ^ 56 % 256 * 2 ^ 24 = 0
      omega
  · rw [if_neg (by omega)]
    congr 1
    refine leP_c (fun j hj => ?_)
    unfold r_pd
    rw [if_pos (by omega)]
set_option maxHeartbeats 400000 in
theorem l_ri27 (fu : Nat) (hfu : 1600 ≤ fu) (n1 : Nat) (hn1 : n1 < 2 ^ 30) {a N o : Nat} (hN : N ≤ 90000) (ha : a + N ≤ n1) (ho : o + 20 ≤ n1) (u4 : Nat → Int32) : ∀ r q n u0 u1 u2 u3, q + r = s_nb N → r < n → (∀ j, j < 5 → u0 j = stf (r_it (fun j => u4 (a + j)) N q) j) → ok (x_Ri_once_e41_27 fu n1 n (nI a) (nI N) (nI o) (nI (s_nb N)) (nI q) u0 u1 u2 u3 u4) (fun t => ∀ j, t.2.2.2.2 j = if o ≤ j ∧ j < o + 20 then r_ob (r_it (fun j => u4 (a + j)) N (s_nb N)) (j - o) else u4 j) := by
  have hb : 64 * s_nb N ≤ N + 72 ∧ N + 9 ≤ 64 * s_nb N := by unfold s_nb; omega
  intro r
  induction r with
  | zero =>
    intro q n u0 u1 u2 u3 hi hn h
    obtain ⟨n, rfl⟩ : ∃ m, n = m + 1 := ⟨n - 1, by omega⟩
    have : q = s_nb N := by omega
    subst this
    show ok (xb_Ri_once_e41_27 fu n1 (x_Ri_once_e41_27 fu n1 n) (nI a) (nI N) (nI o) (nI (s_nb N)) (nI (s_nb N)) u0 u1 u2 u3 u4) _
    unfold xb_Ri_once_e41_27
    exact ok_t (Int32.le_refl _) (l_ri245 fu n1 hn1 ho _ u0 u1 u2 u3 u4 h 20 0 fu u4 (by omega) (by omega) (fun j => by rw [if_neg (by omega)]))
  | succ r ih =>
    intro q n u0 u1 u2 u3 hi hn h
    obtain ⟨n, rfl⟩ : ∃ m, n = m + 1 := ⟨n - 1, by omega⟩
    show ok (xb_Ri_once_e41_27 fu n1 (x_Ri_once_e41_27 fu n1 n) (nI a) (nI N) (nI o) (nI (s_nb N)) (nI q) u0 u1 u2 u3 u4) _
    unfold xb_Ri_once_e41_27 x_Ri_spread
    have e1 : (64 : Int32) * nI q = nI (64 * q) := pk_mul 64 q
    refine ok_f (show ¬ nI (s_nb N) ≤ nI q from nI_ge (by omega) (by omega)) (ok_bn e1 ?_)
    refine ok_bd1 (l_sp3 fu (by omega) n1 hn1 u4 ha (b := 64 * q) (by omega) 16 0 fu u3 (by omega) (by omega) (fun t ht => absurd ht (Nat.not_lt_zero _))) (fun f2 hf2 => ?_)
    rw [show nI (s_nb N) - (1 : Int32) = nI (s_nb N - 1) from pk_sub (b := 1) (by omega)]
    by_cases g : q = s_nb N - 1
    · refine ok_t (by rw [g]) (ok_bn (pk_mul 8 N) (ok_bnd ?_))
      refine l_ri66 fu (by omega) n1 _ _ _ _ _ _ (fun j => u4 (a + j)) N q u0 u1 u2 _ u4 h (fun i hi => ?_) (fun f f1 f2 hf => ih (q + 1) n f f1 f2 _ (by omega) (by omega) hf)
      rw [w_pd hN (by omega) hi]
      show upd f2 14 (nI (8 * N)) i = _
      by_cases g2 : i = 14
      · rw [g2, pk_us, if_pos ⟨by omega, rfl⟩]
      · rw [pk_un g2, if_neg (by omega), hf2 i hi]
    · refine ok_f (fun e => g ((nI_eq (by omega) (by omega)).mp e)) ?_
      refine l_ri66 fu (by omega) n1 _ _ _ _ _ _ (fun j => u4 (a + j)) N q u0 u1 u2 _ u4 h (fun i hi => ?_) (fun f f1 f2 hf => ih (q + 1) n f f1 f2 _ (by omega) (by omega) hf)
      rw [w_pd hN (by omega) hi, if_neg (by omega), hf2 i hi]
set_option maxHeartbeats 400000 in
theorem v_Ri_once (fu : Nat) (hfu : 1600 ≤ fu) (n1 : Nat) (hn1 : n1 < 2 ^ 30) {a N o : Nat} (hN : N ≤ 90000) (ha : a + N ≤ n1) (ho : o + 20 ≤ n1) (u0 u1 u2 u3 u4 : Nat → Int32) : ok (x_Ri_once_e41 fu n1 (nI a) (nI N) (nI o) u0 u1 u2 u3 u4) (fun t => ∀ j, t.2.2.2.2 j = if o ≤ j ∧ j < o + 20 then r_ob (r_it (fun j => u4 (a + j)) N (s_nb N)) (j - o) else u4 j) := by
  unfold x_Ri_once_e41
  have e2 : nI (N + 8) / (64 : Int32) = nI ((N + 8) / 64) := pk_div (d := 64) (by omega) (by decide) (by decide)
  have e3 : nI ((N + 8) / 64) + (1 : Int32) = nI (s_nb N) := by
    rw [nI_1]
    congr 1
    unfold s_nb
    omega
  refine ok_gd (by decide) (ok_bnd (ok_bn (nI_add N 8) (ok_bn e2 (ok_bn e3 ?_))))
  refine l_ri27 fu hfu n1 hn1 hN ha ho u4 (s_nb N) 0 fu _ u1 u2 u3 (by omega) (by unfold s_nb; omega) (fun j hj => ?_)
  show (if 0 ≤ j ∧ j < 0 + 5 then tb_7.getD (0 + (j - 0)) 0 else u0 j) = _
  rw [if_pos (by omega), Nat.zero_add, Nat.sub_zero]
  rcases cs5 hj with rfl | rfl | rfl | rfl | rfl <;> rfl
