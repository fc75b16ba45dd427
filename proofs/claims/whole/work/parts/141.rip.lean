-- ripemd, what it is
abbrev S5 : Type := Int32 × Int32 × Int32 × Int32 × Int32
def r_mx (a0 a1 a2 a3 : Int32) : Int32 := if a0 = 0 then (a1 ^^^ a2) ^^^ a3 else if a0 = 1 then (a1 &&& a2) ||| ((a1 ^^^ (-1 : Int32)) &&& a3) else if a0 = 2 then (a1 ||| (a2 ^^^ (-1 : Int32))) ^^^ a3 else if a0 = 3 then (a1 &&& a3) ||| (a2 &&& (a3 ^^^ (-1 : Int32))) else a1 ^^^ (a2 ||| (a3 ^^^ (-1 : Int32)))
def r_rot (t s : Int32) : Int32 := (t <<< (s &&& 31)) ||| ((t.toUInt32 >>> (((32 : Int32) - s).toUInt32 &&& Int32.toUInt32 31)).toInt32)
def r_10 (x : Int32) : Int32 := (x <<< ((10 : Int32) &&& 31)) ||| ((x.toUInt32 >>> ((22 : Int32).toUInt32 &&& Int32.toUInt32 31)).toInt32)
def r_st (jm w k s : Int32) (v : S5) : S5 := (v.2.2.2.2, r_rot (((v.1 + r_mx jm v.2.1 v.2.2.1 v.2.2.2.1) + w) + k) s + v.2.2.2.2, v.2.1, r_10 v.2.2.1, v.2.2.2.1)
def mj (mi j : Nat) : Nat := if mi = 0 then j else 4 - j
def r_ln (mi : Nat) (tw ts tk : List Int32) (w : Nat → Int32) (v : S5) : Nat → S5
  | 0 => v
  | i + 1 => r_st (nI (mj mi (i / 16))) (w (tw.getD i 0).toNatClampNeg) (tk.getD (i / 16) 0) (ts.getD i 0) (r_ln mi tw ts tk w v i)
set_option maxHeartbeats 400000 in
theorem r_mxC (fu : Nat) (a b c d : Int32) : x_Ri_mixed fu a b c d = some (r_mx a b c d) := by
  unfold x_Ri_mixed r_mx
  by_cases h0 : a = 0
  · rw [if_pos h0, if_pos h0]; rfl
  rw [if_neg h0, if_neg h0]
  by_cases h1 : a = 1
  · rw [if_pos h1, if_pos h1]; rfl
  rw [if_neg h1, if_neg h1]
  by_cases h2 : a = 2
  · rw [if_pos h2, if_pos h2]; rfl
  rw [if_neg h2, if_neg h2]
  by_cases h3 : a = 3
  · rw [if_pos h3, if_pos h3]; rfl
  rw [if_neg h3, if_neg h3]
  rfl
set_option maxHeartbeats 400000 in
theorem r_mxM (fu : Nat) (a b c d : Int32) : x_M_mix fu a b c d = some (r_mx a b c d) := r_mxC fu a b c d
set_option maxHeartbeats 400000 in
theorem r_ab0 : ∀ j, j < 5 → (if 0 ≤ nI 0 - nI j then nI 0 - nI j else 0 - (nI 0 - nI j)) = nI j := by decide
set_option maxHeartbeats 400000 in
theorem r_ab4 : ∀ j, j < 5 → (if 0 ≤ nI 4 - nI j then nI 4 - nI j else 0 - (nI 4 - nI j)) = nI (4 - j) := by decide
set_option maxHeartbeats 400000 in
theorem r_t8 : ∀ i, i < 80 → inb (tb_8.getD i 0) 16 = true := by decide +kernel
set_option maxHeartbeats 400000 in
theorem r_t11 : ∀ i, i < 80 → inb (tb_11.getD i 0) 16 = true := by decide +kernel
def stf (v : S5) (i : Nat) : Int32 := if i = 0 then v.1 else if i = 1 then v.2.1 else if i = 2 then v.2.2.1 else if i = 3 then v.2.2.2.1 else v.2.2.2.2
set_option maxHeartbeats 400000 in
theorem l_tnL (fu : Nat) (g x u0 : Nat → Int32) (v0 : S5) : ∀ r i n (v : S5), i + r = 80 → r < n → v = r_ln 0 tb_8 tb_9 tb_10 x v0 i → ok (x_Ri_turn_s2x8s3x9s4x10_43 fu g x n (nI 0) v.1 v.2.1 v.2.2.1 v.2.2.2.1 v.2.2.2.2 (nI i) u0) (fun u => ∀ j, j < 5 → u j = stf (r_ln 0 tb_8 tb_9 tb_10 x v0 80) j) := by
  intro r
  induction r with
  | zero =>
    intro i n v hi hn hv
    obtain ⟨n, rfl⟩ : ∃ m, n = m + 1 := ⟨n - 1, by omega⟩
    have : i = 80 := by omega
    subst this
    show ok (xb_Ri_turn_s2x8s3x9s4x10_43 fu g x (x_Ri_turn_s2x8s3x9s4x10_43 fu g x n) (nI 0) v.1 v.2.1 v.2.2.1 v.2.2.2.1 v.2.2.2.2 (nI 80) u0) _
    unfold xb_Ri_turn_s2x8s3x9s4x10_43
    refine ok_t (by decide) (ok_bnd (ok_bnd (ok_bnd (ok_bnd (ok_bnd (ok_some (fun j hj => ?_)))))))
    rw [← hv]
    have cs : j = 0 ∨ j = 1 ∨ j = 2 ∨ j = 3 ∨ j = 4 := by omega
    rcases cs with rfl | rfl | rfl | rfl | rfl <;> rfl
  | succ r ih =>
    intro i n v hi hn hv
    obtain ⟨n, rfl⟩ : ∃ m, n = m + 1 := ⟨n - 1, by omega⟩
    show ok (xb_Ri_turn_s2x8s3x9s4x10_43 fu g x (x_Ri_turn_s2x8s3x9s4x10_43 fu g x n) (nI 0) v.1 v.2.1 v.2.2.1 v.2.2.2.1 v.2.2.2.2 (nI i) u0) _
    unfold xb_Ri_turn_s2x8s3x9s4x10_43
    have e1 : nI i >>> ((4 : Int32) &&& 31) = nI (i / 16) := pk_shrN (n := i) (by omega) ((4 : Int32) &&& 31) 4 (by decide)
    have h80 : inb (nI i) 80 = true := inb_nI (by omega) (by decide)
    have ec : (nI i).toNatClampNeg = i := nI_clamp (n := i) (by omega)
    refine ok_f (show ¬ (80 : Int32) ≤ nI i from nI_ge (b := 80) (by omega) (by decide)) (ok_bn e1 (ok_bnd (ok_bn (r_ab0 (i / 16) (by omega)) ?_)))
    rw [r_mxC, bd1_q]
    refine ok_bnd (ok_gd h80 (ok_bnd ?_))
    rw [ec]
    refine ok_gd (r_t8 i (by omega)) (ok_bnd (ok_bnd (ok_gd (inb_nI (by omega) (by decide)) (ok_bnd (ok_bnd (ok_gd h80 (ok_bnd (ok_bnd (ok_gd h80 (ok_bnd (ok_bnd (ok_bnd (ok_bnd (ok_bnd (ok_bnd ?_)))))))))))))))
    rw [nI_clamp (n := i / 16) (by omega), nI_1]
    refine ih (i + 1) n (r_st (nI (i / 16)) (x (tb_8.getD i 0).toNatClampNeg) (tb_10.getD (i / 16) 0) (tb_9.getD i 0) v) (by omega) (by omega) ?_
    have em : mj 0 (i / 16) = (i / 16) := rfl
    show _ = r_st (nI (mj 0 (i / 16))) (x (tb_8.getD i 0).toNatClampNeg) (tb_10.getD (i / 16) 0) (tb_9.getD i 0) (r_ln 0 tb_8 tb_9 tb_10 x v0 i)
    rw [hv, em]
set_option maxHeartbeats 400000 in
theorem v_tnL (fu : Nat) (hfu : 100 ≤ fu) (g x u0 : Nat → Int32) : ok (x_Ri_turn_s2x8s3x9s4x10 fu g x (0 : Int32) u0) (fun u => ∀ j, j < 5 → u j = stf (r_ln 0 tb_8 tb_9 tb_10 x (g 0, g 1, g 2, g 3, g 4) 80) j) := by
  unfold x_Ri_turn_s2x8s3x9s4x10
  exact l_tnL fu g x u0 (g 0, g 1, g 2, g 3, g 4) 80 0 fu (g 0, g 1, g 2, g 3, g 4) (by omega) (by omega) rfl
set_option maxHeartbeats 400000 in
theorem l_tnR (fu : Nat) (g x u0 : Nat → Int32) (v0 : S5) : ∀ r i n (v : S5), i + r = 80 → r < n → v = r_ln 4 tb_11 tb_12 tb_13 x v0 i → ok (x_Ri_turn_s2x11s3x12s4x13_43 fu g x n (nI 4) v.1 v.2.1 v.2.2.1 v.2.2.2.1 v.2.2.2.2 (nI i) u0) (fun u => ∀ j, j < 5 → u j = stf (r_ln 4 tb_11 tb_12 tb_13 x v0 80) j) := by
  intro r
  induction r with
  | zero =>
    intro i n v hi hn hv
    obtain ⟨n, rfl⟩ : ∃ m, n = m + 1 := ⟨n - 1, by omega⟩
    have : i = 80 := by omega
    subst this
    show ok (xb_Ri_turn_s2x11s3x12s4x13_43 fu g x (x_Ri_turn_s2x11s3x12s4x13_43 fu g x n) (nI 4) v.1 v.2.1 v.2.2.1 v.2.2.2.1 v.2.2.2.2 (nI 80) u0) _
    unfold xb_Ri_turn_s2x11s3x12s4x13_43
    refine ok_t (by decide) (ok_bnd (ok_bnd (ok_bnd (ok_bnd (ok_bnd (ok_some (fun j hj => ?_)))))))
    rw [← hv]
    have cs : j = 0 ∨ j = 1 ∨ j = 2 ∨ j = 3 ∨ j = 4 := by omega
    rcases cs with rfl | rfl | rfl | rfl | rfl <;> rfl
  | succ r ih =>
    intro i n v hi hn hv
    obtain ⟨n, rfl⟩ : ∃ m, n = m + 1 := ⟨n - 1, by omega⟩
    show ok (xb_Ri_turn_s2x11s3x12s4x13_43 fu g x (x_Ri_turn_s2x11s3x12s4x13_43 fu g x n) (nI 4) v.1 v.2.1 v.2.2.1 v.2.2.2.1 v.2.2.2.2 (nI i) u0) _
    unfold xb_Ri_turn_s2x11s3x12s4x13_43
    have e1 : nI i >>> ((4 : Int32) &&& 31) = nI (i / 16) := pk_shrN (n := i) (by omega) ((4 : Int32) &&& 31) 4 (by decide)
    have h80 : inb (nI i) 80 = true := inb_nI (by omega) (by decide)
    have ec : (nI i).toNatClampNeg = i := nI_clamp (n := i) (by omega)
    refine ok_f (show ¬ (80 : Int32) ≤ nI i from nI_ge (b := 80) (by omega) (by decide)) (ok_bn e1 (ok_bnd (ok_bn (r_ab4 (i / 16) (by omega)) ?_)))
    rw [r_mxC, bd1_q]
    refine ok_bnd (ok_gd h80 (ok_bnd ?_))
    rw [ec]
    refine ok_gd (r_t11 i (by omega)) (ok_bnd (ok_bnd (ok_gd (inb_nI (by omega) (by decide)) (ok_bnd (ok_bnd (ok_gd h80 (ok_bnd (ok_bnd (ok_gd h80 (ok_bnd (ok_bnd (ok_bnd (ok_bnd (ok_bnd (ok_bnd ?_)))))))))))))))
    rw [nI_clamp (n := i / 16) (by omega), nI_1]
    refine ih (i + 1) n (r_st (nI (4 - i / 16)) (x (tb_11.getD i 0).toNatClampNeg) (tb_13.getD (i / 16) 0) (tb_12.getD i 0) v) (by omega) (by omega) ?_
    have em : mj 4 (i / 16) = (4 - i / 16) := rfl
    show _ = r_st (nI (mj 4 (i / 16))) (x (tb_11.getD i 0).toNatClampNeg) (tb_13.getD (i / 16) 0) (tb_12.getD i 0) (r_ln 4 tb_11 tb_12 tb_13 x v0 i)
    rw [hv, em]
set_option maxHeartbeats 400000 in
theorem v_tnR (fu : Nat) (hfu : 100 ≤ fu) (g x u0 : Nat → Int32) : ok (x_Ri_turn_s2x11s3x12s4x13 fu g x (4 : Int32) u0) (fun u => ∀ j, j < 5 → u j = stf (r_ln 4 tb_11 tb_12 tb_13 x (g 0, g 1, g 2, g 3, g 4) 80) j) := by
  unfold x_Ri_turn_s2x11s3x12s4x13
  exact l_tnR fu g x u0 (g 0, g 1, g 2, g 3, g 4) 80 0 fu (g 0, g 1, g 2, g 3, g 4) (by omega) (by omega) rfl
-- words of bytes, the lowest first
def leP (p : Nat → Int32) (o : Nat) : Nat → Nat
  | 0 => 0
  | k + 1 => leP p o k + By (p (o + k)) * 2 ^ (8 * k)
set_option maxHeartbeats 400000 in
theorem leP_lt (p : Nat → Int32) (o : Nat) : ∀ k, leP p o k < 2 ^ (8 * k)
  | 0 => by show 0 < 1; decide
  | k + 1 => by
    have h := leP_lt p o k
    have hb := By_lt (p (o + k))
    show leP p o k + By (p (o + k)) * 2 ^ (8 * k) < 2 ^ (8 * (k + 1))
    rw [show 8 * (k + 1) = 8 * k + 8 by omega, Nat.pow_add]
    generalize 2 ^ (8 * k) = X at *
    generalize leP p o k = Y at *
    generalize By (p (o + k)) = Z at *
    have : Z * X ≤ 255 * X := Nat.mul_le_mul_right X (by omega)
    omega
set_option maxHeartbeats 400000 in
theorem leP_c {p p' : Nat → Int32} {o : Nat} : ∀ {k}, (∀ j, j < k → p (o + j) = p' (o + j)) → leP p o k = leP p' o k
  | 0, _ => rfl
  | k + 1, h => by
    show leP p o k + By (p (o + k)) * 2 ^ (8 * k) = leP p' o k + By (p' (o + k)) * 2 ^ (8 * k)
    rw [leP_c (k := k) (fun j hj => h j (by omega)), h k (by omega)]
set_option maxHeartbeats 400000 in
theorem nI_or {n a i : Nat} (hn : n < 2 ^ i) (ht : n + a * 2 ^ i < 2 ^ 32) : nI n ||| nI (a * 2 ^ i) = nI (n + a * 2 ^ i) := by
  apply U_inj
  rw [u_or (i := i) (a := a) (b := n) (U_nI (by omega)) (U_nI (by omega)) hn, U_nI ht]
set_option maxHeartbeats 400000 in
theorem r_sh : ∀ k, k < 4 → ((((8 : Int32) * nI k) &&& 31).toBitVec.smod 32).toNat = 8 * k := by decide
/-- the text, 128 and zeros -/
def r_p0 (m : Nat → Int32) (N : Nat) (j : Nat) : Int32 := if j < N then m j else if j = N then -128 else 0
set_option maxHeartbeats 400000 in
theorem l_sp73 (fu : Nat) (n1 : Nat) (h : Nat → Int32) (K : Int32 → Int32 → Int32 → Int32 → (Nat → Int32) → Option (Nat → Int32)) (P : (Nat → Int32) → Prop) (x2 x3 x4 : Int32) (p u : Nat → Int32) {b i : Nat} (hi : i < 64) (hu : ∀ t, t < 16 → u t = nI (leP p (b + 4 * t) (min 4 (i - 4 * t)))) (hk : ∀ u', (∀ t, t < 16 → u' t = nI (leP p (b + 4 * t) (min 4 (i + 1 - 4 * t)))) → ok (K x2 x3 x4 (nI (i + 1)) u') P) : ok (xb_Ri_spread_73 fu n1 h K x2 x3 x4 (nI i) (nI (By (p (b + i)))) u) P := by
  unfold xb_Ri_spread_73
  have e1 : nI i >>> ((2 : Int32) &&& 31) = nI (i / 4) := pk_shrN (n := i) (by omega) ((2 : Int32) &&& 31) 2 (by decide)
  have e2 : nI i &&& (3 : Int32) = nI (i % 4) := pk_andN (n := i) (by omega) 2 (by decide)
  have h16 : inb (nI (i / 4)) 16 = true := inb_nI (by omega) (by decide)
  have hB := By_lt (p (b + i))
  rw [e2]
  refine ok_bn e1 (ok_gd h16 (ok_bnd (ok_bnd (ok_gd h16 (ok_bnd (ok_bnd ?_))))))
  rw [nI_clamp (n := i / 4) (by omega), nI_1]
  have hl := leP_lt p (b + 4 * (i / 4)) (i % 4)
  have hX : 2 ^ (8 * (i % 4)) ≤ 2 ^ 24 := Nat.pow_le_pow_right (by decide) (by omega)
  have hlt : leP p (b + 4 * (i / 4)) (i % 4) + By (p (b + i)) * 2 ^ (8 * (i % 4)) < 2 ^ 32 := by
    generalize 2 ^ (8 * (i % 4)) = X at *
    have : By (p (b + i)) * X ≤ 255 * X := Nat.mul_le_mul_right X (by omega)
    omega
  refine hk _ (fun t ht => ?_)
  by_cases g : t = i / 4
  · rw [g, pk_us, hu (i / 4) (by omega), show min 4 (i - 4 * (i / 4)) = i % 4 by omega, pk_shlN _ (8 * (i % 4)) (r_sh (i % 4) (by omega)) (by omega), nI_or hl hlt, show min 4 (i + 1 - 4 * (i / 4)) = i % 4 + 1 by omega]
    show _ = nI (leP p (b + 4 * (i / 4)) (i % 4) + By (p (b + 4 * (i / 4) + i % 4)) * 2 ^ (8 * (i % 4)))
    rw [show b + 4 * (i / 4) + i % 4 = b + i by omega]
  · rw [pk_un g, hu t ht]
    congr 2
    omega
set_option maxHeartbeats 400000 in
theorem By_128 : By (-128) = 128 := by decide
set_option maxHeartbeats 400000 in
theorem By_0 : By 0 = 0 := by decide
set_option maxHeartbeats 400000 in
theorem l_sp27 (fu : Nat) (n1 : Nat) (hn1 : n1 < 2 ^ 30) (h : Nat → Int32) {a N b : Nat} (ha : a + N ≤ n1) (hb : b < 2 ^ 20) : ∀ r i n u, i + r = 64 → r < n → (∀ t, t < 16 → u t = nI (leP (r_p0 (fun j => h (a + j)) N) (b + 4 * t) (min 4 (i - 4 * t)))) → ok (x_Ri_spread_27 fu n1 h n (nI a) (nI N) (nI b) (nI i) u) (fun u => ∀ t, t < 16 → u t = nI (leP (r_p0 (fun j => h (a + j)) N) (b + 4 * t) 4)) := by
  intro r
  induction r with
  | zero =>
    intro i n u hi hn hu
    obtain ⟨n, rfl⟩ : ∃ m, n = m + 1 := ⟨n - 1, by omega⟩
    have : i = 64 := by omega
    subst this
    show ok (xb_Ri_spread_27 fu n1 h (x_Ri_spread_27 fu n1 h n) (nI a) (nI N) (nI b) (nI 64) u) _
    unfold xb_Ri_spread_27
    refine ok_t (by decide) (ok_some (fun t ht => ?_))
    rw [hu t ht, show min 4 (64 - 4 * t) = 4 by omega]
  | succ r ih =>
    intro i n u hi hn hu
    obtain ⟨n, rfl⟩ : ∃ m, n = m + 1 := ⟨n - 1, by omega⟩
    show ok (xb_Ri_spread_27 fu n1 h (x_Ri_spread_27 fu n1 h n) (nI a) (nI N) (nI b) (nI i) u) _
    unfold xb_Ri_spread_27
    have step : ∀ y, y = nI (By (r_p0 (fun j => h (a + j)) N (b + i))) → ok (xb_Ri_spread_73 fu n1 h (x_Ri_spread_27 fu n1 h n) (nI a) (nI N) (nI b) (nI i) y u) (fun u => ∀ t, t < 16 → u t = nI (leP (r_p0 (fun j => h (a + j)) N) (b + 4 * t) 4)) := by
      intro y hy
      rw [hy]
      exact l_sp73 fu n1 h _ _ _ _ _ _ u (by omega) hu (fun u' hu' => ih (i + 1) n u' (by omega) (by omega) hu')
    refine ok_f (show ¬ (64 : Int32) ≤ nI i from nI_ge (b := 64) (by omega) (by decide)) (ok_bn (nI_add b i) ?_)
    by_cases g : N ≤ b + i
    · refine ok_t (nI_le g (by omega)) ?_
      by_cases g2 : b + i = N
      · refine ok_t (by rw [g2]) (step _ ?_)
        unfold r_p0
        rw [if_neg (by omega), if_pos g2, By_128]
        rfl
      · refine ok_f (fun e => g2 ((nI_eq (by omega) (by omega)).mp e)) (step _ ?_)
        unfold r_p0
        rw [if_neg (by omega), if_neg g2, By_0]
        rfl
    · refine ok_f (nI_ge (by omega) (by omega)) (ok_bn (nI_add a (b + i)) (ok_gd (inb_nI (by omega) (by omega)) (ok_bnd (step _ ?_))))
      unfold r_p0
      rw [if_pos (by omega), nI_clamp (by omega), and255]
set_option maxHeartbeats 400000 in
theorem l_sp3 (fu : Nat) (hfu : 100 ≤ fu) (n1 : Nat) (hn1 : n1 < 2 ^ 30) (h : Nat → Int32) {a N b : Nat} (ha : a + N ≤ n1) (hb : b < 2 ^ 20) : ∀ r i n u, i + r = 16 → r < n → (∀ t, t < i → u t = 0) → ok (x_Ri_spread_3 fu n1 h n (nI a) (nI N) (nI b) (nI i) u) (fun u => ∀ t, t < 16 → u t = nI (leP (r_p0 (fun j => h (a + j)) N) (b + 4 * t) 4)) := by
  intro r
  induction r with
  | zero =>
    intro i n u hi hn hu
    obtain ⟨n, rfl⟩ : ∃ m, n = m + 1 := ⟨n - 1, by omega⟩
    have : i = 16 := by omega
    subst this
    show ok (xb_Ri_spread_3 fu n1 h (x_Ri_spread_3 fu n1 h n) (nI a) (nI N) (nI b) (nI 16) u) _
    unfold xb_Ri_spread_3
    refine ok_t (by decide) (l_sp27 fu n1 hn1 h ha hb 64 0 fu u (by omega) (by omega) (fun t ht => ?_))
    rw [hu t ht, show min 4 (0 - 4 * t) = 0 by omega]
    rfl
  | succ r ih =>
    intro i n u hi hn hu
    obtain ⟨n, rfl⟩ : ∃ m, n = m + 1 := ⟨n - 1, by omega⟩
    show ok (xb_Ri_spread_3 fu n1 h (x_Ri_spread_3 fu n1 h n) (nI a) (nI N) (nI b) (nI i) u) _
    unfold xb_Ri_spread_3
    refine ok_f (show ¬ (16 : Int32) ≤ nI i from nI_ge (b := 16) (by omega) (by decide)) (ok_gd (inb_nI (by omega) (by decide)) (ok_bnd (ok_bnd ?_)))
    rw [nI_clamp (n := i) (by omega), nI_1]
    refine ih (i + 1) n _ (by omega) (by omega) (fun t ht => ?_)
    by_cases g : t = i
    · rw [g, pk_us]
    · rw [pk_un g]; exact hu t (by omega)
/-- the padded text -/
def r_pd (m : Nat → Int32) (N : Nat) (j : Nat) : Int32 := if j < 64 * s_nb N - 8 then r_p0 m N j else s_lb (lN N) (j - (64 * s_nb N - 8))
def r_w (m : Nat → Int32) (N q i : Nat) : Int32 := nI (leP (r_pd m N) (64 * q + 4 * i) 4)
def r_cb (h v w : S5) : S5 := (h.2.1 + v.2.2.1 + w.2.2.2.1, h.2.2.1 + v.2.2.2.1 + w.2.2.2.2, h.2.2.2.1 + v.2.2.2.2 + w.1, h.2.2.2.2 + v.1 + w.2.1, h.1 + v.2.1 + w.2.2.1)
def r_it (m : Nat → Int32) (N : Nat) : Nat → S5
  | 0 => (1732584193, -271733879, -1732584194, 271733878, -1009589776)
  | q + 1 => r_cb (r_it m N q) (r_ln 0 tb_8 tb_9 tb_10 (r_w m N q) (r_it m N q) 80) (r_ln 4 tb_11 tb_12 tb_13 (r_w m N q) (r_it m N q) 80)
def r_ob (v : S5) (k : Nat) : Int32 := (((stf v (k / 4)).toUInt32 >>> (((8 : Int32) * nI (k % 4)).toUInt32 &&& Int32.toUInt32 31)).toInt32).toInt8.toInt32
set_option maxHeartbeats 400000 in
theorem r_ln_c {mi : Nat} {tw ts tk : List Int32} {w w' : Nat → Int32} {v : S5} (h : ∀ i, i < 80 → w (tw.getD i 0).toNatClampNeg = w' (tw.getD i 0).toNatClampNeg) : ∀ n, n ≤ 80 → r_ln mi tw ts tk w v n = r_ln mi tw ts tk w' v n
  | 0, _ => rfl
  | n + 1, hn => by
    show r_st _ (w _) _ _ (r_ln mi tw ts tk w v n) = r_st _ (w' _) _ _ (r_ln mi tw ts tk w' v n)
    rw [r_ln_c h n (by omega), h n (by omega)]
set_option maxHeartbeats 400000 in
theorem r_16a : ∀ i, i < 80 → (tb_8.getD i 0).toNatClampNeg < 16 := by decide +kernel
set_option maxHeartbeats 400000 in
theorem r_16b : ∀ i, i < 80 → (tb_11.getD i 0).toNatClampNeg < 16 := by decide +kernel
