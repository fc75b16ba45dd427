-- settle: 0 to p - 1
def nn (h : Nat → Int64) (n : Nat) : Prop := ∀ j, j < n → 0 ≤ (h j).toInt ∧ (h j).toInt < 2 ^ 26
/-- carrying small numbers -/
def cQ (X : Int) (w : Nat → Int64) (i : Nat) (u : Nat → Int64) : Prop := Tv u 10 = X ∧ nn u i ∧ (-64 ≤ (u i).toInt - (w i).toInt ∧ (u i).toInt - (w i).toInt ≤ 64) ∧ ∀ j, i < j → u j = w j
def sm32 (w : Nat → Int64) : Prop := ∀ j, j < 10 → -4294960000 ≤ (w j).toInt ∧ (w j).toInt ≤ 4294960000
set_option maxHeartbeats 400000 in
theorem cQ_s {X : Int} {w u : Nat → Int64} {i : Nat} (hi : i < 9) (hw : sm32 w) (h : cQ X w i u) : cQ X w (i + 1) (vp_updL (vp_updL u (i + 1) (u (i + 1) + (u i >>> ((26 : Int32).toInt64 &&& 63)))) i (u i &&& (67108863 : Int64))) := by
  obtain ⟨h1, h2, h3, h4⟩ := h
  have e1 : u (i + 1) = w (i + 1) := h4 _ (by omega)
  have q := hw (i + 1) (by omega)
  have q0 := hw i (by omega)
  rw [e1]
  have ea : (w (i + 1) + (u i >>> ((26 : Int32).toInt64 &&& 63))).toInt = (w (i + 1)).toInt + (u i).toInt / 2 ^ 26 := by
    rw [la, l_s26]
    · rw [l_s26]; generalize (u i).toInt = a at *; generalize (w (i + 1)).toInt = b at *; generalize (w i).toInt = c at *; omega
    · rw [l_s26]; generalize (u i).toInt = a at *; generalize (w (i + 1)).toInt = b at *; generalize (w i).toInt = c at *; omega
  have eb := l_26 (u i)
  generalize w (i + 1) + (u i >>> ((26 : Int32).toInt64 &&& 63)) = S at ea ⊢
  generalize u i &&& (67108863 : Int64) = R at eb ⊢
  have g1 : vp_updL (vp_updL u (i + 1) S) i R i = R := pk_uLs
  have g2 : vp_updL (vp_updL u (i + 1) S) i R (i + 1) = S := by rw [pk_uLn (by omega), pk_uLs]
  have g3 : ∀ j, j ≠ i → j ≠ i + 1 → vp_updL (vp_updL u (i + 1) S) i R j = u j := fun j n1 n2 => by rw [pk_uLn n1, pk_uLn n2]
  refine ⟨?_, ?_, ?_, ?_⟩
  · rw [← h1]
    refine Tv_two g3 ?_ 10 (by omega)
    rw [g1, g2, ea, eb, e1]
    generalize (u i).toInt = a at *
    generalize (w (i + 1)).toInt = b at *
    omega
  · intro j hj
    by_cases hji : j = i
    · rw [hji, g1, eb]
      generalize (u i).toInt = a at *
      omega
    · rw [g3 j hji (by omega)]
      exact h2 j (by omega)
  · rw [g2, ea]
    generalize (u i).toInt = a at *
    generalize (w (i + 1)).toInt = b at *
    generalize (w i).toInt = c at *
    omega
  · intro j hj
    rw [g3 j (by omega) (by omega)]
    exact h4 j (by omega)
set_option maxHeartbeats 400000 in
theorem l_Cu_st49 (fu : Nat) (k_2 : Int32 → (Nat → Int64) → Option (Nat → Int64)) (x1 : Int32) (P : (Nat → Int64) → Prop) (w : Nat → Int64) (X : Int) (hw : sm32 w) (hk : ∀ f, cQ X w 9 f → ok (k_2 (x1 + 1) f) P) : ∀ r i u n, i + r = 9 → r < n → cQ X w i u → ok (x_Cu_settle_49 fu k_2 n x1 (nI i) u) P := by
  intro r
  induction r with
  | zero =>
    intro i u n hi hn h
    obtain ⟨n, rfl⟩ : ∃ m, n = m + 1 := ⟨n - 1, by omega⟩
    have : i = 9 := by omega
    subst this
    show ok (xb_Cu_settle_49 fu k_2 (x_Cu_settle_49 fu k_2 n) x1 (nI 9) u) _
    unfold xb_Cu_settle_49
    exact ok_t (show (9 : Int32) ≤ nI 9 from by decide) (ok_bnd (hk u h))
  | succ r ih =>
    intro i u n hi hn h
    obtain ⟨n, rfl⟩ : ∃ m, n = m + 1 := ⟨n - 1, by omega⟩
    show ok (xb_Cu_settle_49 fu k_2 (x_Cu_settle_49 fu k_2 n) x1 (nI i) u) _
    unfold xb_Cu_settle_49
    refine ok_f (show ¬ (9 : Int32) ≤ nI i from nI_ge (b := 9) (by omega) (by decide)) ?_
    rw [nI_1]
    refine ok_bnd (ok_gd (inb_nI (by omega) (by decide)) (ok_bnd (ok_gd (inb_nI (by omega) (by decide)) (ok_bnd (ok_bnd (ok_gd (inb_nI (by omega) (by decide)) (ok_bnd (ok_gd (inb_nI (by omega) (by decide)) (ok_bnd (ok_bnd (ok_gd (inb_nI (by omega) (by decide)) (ok_bnd (ok_bnd ?_)))))))))))))
    rw [nI_clamp (n := i) (by omega), nI_clamp (n := i + 1) (by omega), pk_uLn (show i ≠ i + 1 by omega)]
    exact ih (i + 1) _ n (by omega) (by omega) (cQ_s (by omega) hw h)
set_option maxHeartbeats 400000 in
/-- one round -/
theorem l_Cu_rd (fu : Nat) (hfu : 10 ≤ fu) (k_2 : Int32 → (Nat → Int64) → Option (Nat → Int64)) (r : Nat) (hr : r < 2) (P : (Nat → Int64) → Prop) (u : Nat → Int64) (hu : ∀ j, j < 10 → -2 ^ 31 ≤ (u j).toInt ∧ (u j).toInt ≤ 2 ^ 31) (hk : ∀ f, nn f 9 → -64 ≤ (f 9).toInt → (f 9).toInt < 2 ^ 22 + 64 → Tv f 10 = Tv u 10 - (u 9).toInt / 2 ^ 22 * 115792089237316195423570985008687907853269984665640564039457584007908834671663 → ok (k_2 (nI (r + 1)) f) P) : ok (xb_Cu_settle_2 fu k_2 (nI r) u) P := by
  unfold xb_Cu_settle_2
  refine ok_f (show ¬ (2 : Int32) ≤ nI r from nI_ge (b := 2) (by omega) (by decide)) ?_
  refine ok_bnd (ok_bnd (ok_bnd (ok_bv fun v4 e4 => ok_bnd (ok_bnd (ok_bv fun v7 e7 => ok_bnd (ok_bnd (ok_bv fun v11 e11 => ok_bnd ?_)))))))
  replace e4 : v4 = u 9 &&& (4194303 : Int64) := e4
  replace e7 : v7 = u 0 + ((u 9 >>> ((22 : Int32).toInt64 &&& 63)) * (977 : Int64)) := e7
  replace e11 : v11 = u 1 + ((u 9 >>> ((22 : Int32).toInt64 &&& 63)) <<< ((6 : Int32).toInt64 &&& 63)) := e11
  have q0 := hu 0 (by decide)
  have q1 := hu 1 (by decide)
  have q9 := hu 9 (by decide)
  have i4 : v4.toInt = (u 9).toInt % 2 ^ 22 := by rw [e4, l_22]
  have io := l_s22 (u 9)
  generalize u 9 >>> ((22 : Int32).toInt64 &&& 63) = o at *
  have i7 : v7.toInt = (u 0).toInt + o.toInt * 977 := by
    refine zz_i (by rw [e7]; exact zz_a (zz_s _) (zz_m (zz_s _) (zz_k rfl))) ?_ ?_
    · generalize (u 9).toInt = a at *; generalize (u 0).toInt = b at *; generalize o.toInt = c at *; omega
    · generalize (u 9).toInt = a at *; generalize (u 0).toInt = b at *; generalize o.toInt = c at *; omega
  have i11 : v11.toInt = (u 1).toInt + o.toInt * 64 := by
    refine zz_i (by rw [e11, zz_sh6]; exact zz_a (zz_s _) (zz_m (zz_s _) (zz_k rfl))) ?_ ?_
    · generalize (u 9).toInt = a at *; generalize (u 1).toInt = b at *; generalize o.toInt = c at *; omega
    · generalize (u 9).toInt = a at *; generalize (u 1).toInt = b at *; generalize o.toInt = c at *; omega
  show ok (x_Cu_settle_49 fu k_2 fu (nI r) (0 : Int32) (vp_updL (vp_updL (vp_updL u 9 v4) 0 v7) 1 v11)) P
  obtain ⟨w, hw⟩ : ∃ w, w = vp_updL (vp_updL (vp_updL u 9 v4) 0 v7) 1 v11 := ⟨_, rfl⟩
  have w0 : w 0 = v7 := by rw [hw]; rfl
  have w1 : w 1 = v11 := by rw [hw]; rfl
  have w9 : w 9 = v4 := by rw [hw]; rfl
  have wj : ∀ j, 1 < j → j < 9 → w j = u j := fun j h1 h2 => by rw [hw, pk_uLn (by omega), pk_uLn (by omega), pk_uLn (by omega)]
  rw [← hw]
  have hT : Tv w 10 = Tv u 10 - o.toInt * 115792089237316195423570985008687907853269984665640564039457584007908834671663 := by
    rw [T10, T10, w0, w1, w9, wj 2 (by decide) (by decide), wj 3 (by decide) (by decide), wj 4 (by decide) (by decide), wj 5 (by decide) (by decide), wj 6 (by decide) (by decide), wj 7 (by decide) (by decide), wj 8 (by decide) (by decide)]
    rw [i4, i7, i11, Int.emod_def, ← io]
    clear hk hu wj w0 w1 w9 i4 i7 i11 q0 q1 q9
    generalize (u 0).toInt = a0 at *; generalize (u 1).toInt = a1 at *; generalize (u 2).toInt = a2 at *
    generalize (u 3).toInt = a3 at *; generalize (u 4).toInt = a4 at *; generalize (u 5).toInt = a5 at *
    generalize (u 6).toInt = a6 at *; generalize (u 7).toInt = a7 at *; generalize (u 8).toInt = a8 at *
    generalize (u 9).toInt = a9 at *
    generalize o.toInt = o at *
    grind
  have hw32 : sm32 w := by
    intro j hj
    by_cases n0 : j = 0
    · rw [n0, w0, i7]; generalize (u 9).toInt = a at *; generalize (u 0).toInt = b at *; generalize o.toInt = c at *; omega
    by_cases n1 : j = 1
    · rw [n1, w1, i11]; generalize (u 9).toInt = a at *; generalize (u 1).toInt = b at *; generalize o.toInt = c at *; omega
    by_cases n9 : j = 9
    · rw [n9, w9, i4]; generalize (u 9).toInt = a at *; omega
    rw [wj j (by omega) (by omega)]
    have := hu j hj
    generalize (u j).toInt = a at *
    omega
  refine l_Cu_st49 fu k_2 (nI r) P w (Tv w 10) hw32 ?_ 9 0 w fu (by omega) (by omega) ⟨rfl, fun j hj => absurd hj (Nat.not_lt_zero _), by omega, fun j _ => rfl⟩
  intro f hf
  rw [nI_1]
  obtain ⟨h1, h2, h3, h4⟩ := hf
  rw [w9, i4] at h3
  refine hk f h2 ?_ ?_ ?_
  · generalize (f 9).toInt = a at *; generalize (u 9).toInt = b at *; omega
  · generalize (f 9).toInt = a at *; generalize (u 9).toInt = b at *; omega
  · rw [h1, hT, io]
set_option maxHeartbeats 400000 in
theorem Tv_nn {h : Nat → Int64} : ∀ {n}, nn h n → 0 ≤ Tv h n ∧ Tv h n < 2 ^ (26 * n)
  | 0, _ => by
    show (0 : Int) ≤ 0 ∧ (0 : Int) < 2 ^ 0
    exact ⟨by decide, by decide⟩
  | n + 1, e => by
    have ih := Tv_nn (n := n) (fun j hj => e j (by omega))
    have q := e n (by omega)
    show 0 ≤ Tv h n + (h n).toInt * 2 ^ (26 * n) ∧ Tv h n + (h n).toInt * 2 ^ (26 * n) < 2 ^ (26 * (n + 1))
    rw [show 26 * (n + 1) = 26 + 26 * n from by omega, Int.pow_add]
    have hp : (0 : Int) < 2 ^ (26 * n) := Int.pow_pos (by decide)
    generalize (2 : Int) ^ (26 * n) = X at *
    generalize Tv h n = t at *
    generalize (h n).toInt = a at *
    have h1 : 0 ≤ a * X := Int.mul_nonneg q.1 (by omega)
    have h2 : (a + 1) * X ≤ 2 ^ 26 * X := Int.mul_le_mul_of_nonneg_right (by omega) (by omega)
    rw [Int.add_mul, Int.one_mul] at h2
    exact ⟨by omega, by omega⟩
set_option maxHeartbeats 400000 in
/-- two rounds bring it below 2^256 -/
theorem st_2 {t1 t2 l1 l2 u9 f9 : Int} (h1 : t1 = l1 + u9 * 2 ^ 234) (h2 : t2 = l2 + f9 * 2 ^ 234) (b1 : 0 ≤ l1) (b2 : l1 < 2 ^ 234) (b3 : 0 ≤ l2) (b4 : l2 < 2 ^ 234) (b5 : -64 ≤ u9) (b6 : u9 < 2 ^ 22 + 64) (e : t2 = t1 - u9 / 2 ^ 22 * 115792089237316195423570985008687907853269984665640564039457584007908834671663) : 0 ≤ f9 ∧ f9 < 2 ^ 22 := by
  have : u9 / 2 ^ 22 = -1 ∨ u9 / 2 ^ 22 = 0 ∨ u9 / 2 ^ 22 = 1 := by omega
  rcases this with h | h | h
  · rw [h] at e
    omega
  · rw [h] at e
    omega
  · rw [h] at e
    omega
