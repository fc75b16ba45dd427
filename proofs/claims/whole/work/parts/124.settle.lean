-- settle's end
set_option maxHeartbeats 400000 in
theorem lg_le (x y : Int64) : lg_cmp x y ≤ 0 ↔ x.toInt ≤ y.toInt := by
  unfold lg_cmp
  have e1 : (x > y) ↔ y.toInt < x.toInt := Int64.lt_iff_toInt_lt
  have e2 : x = y ↔ x.toInt = y.toInt := ⟨fun h => by rw [h], fun h => Int64.toInt_inj.mp h⟩
  simp only [e1, e2]
  by_cases h : y.toInt < x.toInt
  · rw [if_pos h]
    exact ⟨fun q => absurd q (by decide), fun q => by omega⟩
  · rw [if_neg h]
    by_cases h2 : x.toInt = y.toInt
    · rw [if_pos h2]
      exact ⟨fun _ => by omega, fun _ => by decide⟩
    · rw [if_neg h2]
      exact ⟨fun _ => by omega, fun _ => by decide⟩
set_option maxHeartbeats 400000 in
/-- all ones in both -/
theorem l_ones {x y : Int64} (hx : 0 ≤ x.toInt ∧ x.toInt < 2 ^ 26) (hy : 0 ≤ y.toInt ∧ y.toInt < 2 ^ 26) : (0 ≤ (x &&& y).toInt ∧ (x &&& y).toInt < 2 ^ 26) ∧ ((x &&& y).toInt = 67108863 ↔ x.toInt = 67108863 ∧ y.toInt = 67108863) := by
  have t : ∀ z : Int64, 0 ≤ z.toInt → z.toInt = (z.toBitVec.toNat : Int) := by
    intro z hz
    rw [l_toInt] at hz ⊢
    have hlt : z.toBitVec.toNat < 2 ^ 64 := z.toBitVec.isLt
    split at hz
    · rw [if_pos (by assumption)]
    · exfalso
      generalize z.toBitVec.toNat = n at *
      omega
  have ex := t x hx.1
  have ey := t y hy.1
  have e : (x &&& y).toBitVec.toNat = x.toBitVec.toNat &&& y.toBitVec.toNat := by
    show (x.toBitVec &&& y.toBitVec).toNat = _
    rw [BitVec.toNat_and]
  have l1 : x.toBitVec.toNat &&& y.toBitVec.toNat ≤ x.toBitVec.toNat := Nat.and_le_left
  have l2 : x.toBitVec.toNat &&& y.toBitVec.toNat ≤ y.toBitVec.toNat := Nat.and_le_right
  rw [ex] at hx
  rw [ey] at hy
  have ez : (x &&& y).toInt = ((x.toBitVec.toNat &&& y.toBitVec.toNat : Nat) : Int) := by
    rw [l_toInt, e, if_pos (by omega)]
  rw [ez, ex, ey]
  refine ⟨by omega, ⟨fun h => ⟨by omega, by omega⟩, fun h => ?_⟩⟩
  have a1 : x.toBitVec.toNat = 67108863 := by omega
  have a2 : y.toBitVec.toNat = 67108863 := by omega
  rw [a1, a2]
  rfl
set_option maxHeartbeats 400000 in
theorem st_A {a0 a1 a2 a3 a4 a5 a6 a7 a8 a9 : Int} (h0 : 0 ≤ a0 ∧ a0 < 2 ^ 26) (h1 : 0 ≤ a1 ∧ a1 < 2 ^ 26) (h2 : 0 ≤ a2 ∧ a2 < 2 ^ 26) (h3 : 0 ≤ a3 ∧ a3 < 2 ^ 26) (h4 : 0 ≤ a4 ∧ a4 < 2 ^ 26) (h5 : 0 ≤ a5 ∧ a5 < 2 ^ 26) (h6 : 0 ≤ a6 ∧ a6 < 2 ^ 26) (h7 : 0 ≤ a7 ∧ a7 < 2 ^ 26) (h8 : 0 ≤ a8 ∧ a8 < 2 ^ 26) (h9 : 0 ≤ a9 ∧ a9 < 2 ^ 22) (hn : ¬ (a9 = 4194303 ∧ a2 = 67108863 ∧ a3 = 67108863 ∧ a4 = 67108863 ∧ a5 = 67108863 ∧ a6 = 67108863 ∧ a7 = 67108863 ∧ a8 = 67108863)) : a0 * 2 ^ 0 + a1 * 2 ^ 26 + a2 * 2 ^ 52 + a3 * 2 ^ 78 + a4 * 2 ^ 104 + a5 * 2 ^ 130 + a6 * 2 ^ 156 + a7 * 2 ^ 182 + a8 * 2 ^ 208 + a9 * 2 ^ 234 < 115792089237316195423570985008687907853269984665640564039457584007908834671663 := by
  have : a9 ≤ 4194302 ∨ a2 ≤ 67108862 ∨ a3 ≤ 67108862 ∨ a4 ≤ 67108862 ∨ a5 ≤ 67108862 ∨ a6 ≤ 67108862 ∨ a7 ≤ 67108862 ∨ a8 ≤ 67108862 := by omega
  clear hn
  rcases this with h | h | h | h | h | h | h | h
  · omega
  · omega
  · omega
  · omega
  · omega
  · omega
  · omega
  · omega
/-- settled -/
def stl (f : Nat → Int64) : Prop := nn f 9 ∧ (0 ≤ (f 9).toInt ∧ (f 9).toInt < 2 ^ 22) ∧ Tv f 10 < 115792089237316195423570985008687907853269984665640564039457584007908834671663
set_option maxHeartbeats 400000 in
theorem l_Cu_st175 (fu : Nat) (x3 x5 : Int64) (w : Nat → Int64) : ∀ r i u n, i + r = 10 → 2 ≤ i → r < n → (∀ j, 2 ≤ j → j < i → u j = 0) → ok (x_Cu_settle_175 fu n x3 x5 (nI i) u) (fun f => f 0 = x3 &&& (67108863 : Int64) ∧ f 1 = x5 &&& (67108863 : Int64) ∧ ∀ j, 2 ≤ j → j < 10 → f j = 0) := by
  intro r
  induction r with
  | zero =>
    intro i u n hi h2 hn h
    obtain ⟨n, rfl⟩ : ∃ m, n = m + 1 := ⟨n - 1, by omega⟩
    have : i = 10 := by omega
    subst this
    show ok (xb_Cu_settle_175 fu (x_Cu_settle_175 fu n) x3 x5 (nI 10) u) _
    unfold xb_Cu_settle_175
    refine ok_t (show (10 : Int32) ≤ nI 10 from by decide) (ok_bnd (ok_bnd (ok_bnd (ok_bnd (ok_some ?_)))))
    refine ⟨rfl, rfl, fun j j1 j2 => ?_⟩
    show vp_updL (vp_updL u 1 _) 0 _ j = 0
    rw [pk_uLn (by omega), pk_uLn (by omega), h j j1 j2]
  | succ r ih =>
    intro i u n hi h2 hn h
    obtain ⟨n, rfl⟩ : ∃ m, n = m + 1 := ⟨n - 1, by omega⟩
    show ok (xb_Cu_settle_175 fu (x_Cu_settle_175 fu n) x3 x5 (nI i) u) _
    unfold xb_Cu_settle_175
    refine ok_f (show ¬ (10 : Int32) ≤ nI i from nI_ge (b := 10) (by omega) (by decide)) (ok_gd (inb_nI (by omega) (by decide)) (ok_bnd (ok_bnd ?_)))
    rw [nI_clamp (n := i) (by omega), nI_1]
    refine ih (i + 1) _ n (by omega) (by omega) (by omega) (fun j j1 j2 => ?_)
    by_cases hj : j = i
    · rw [hj, pk_uLs]
    · rw [pk_uLn hj, h j j1 (by omega)]
set_option maxHeartbeats 400000 in
theorem l_Cu_st115 (fu : Nat) (hfu : 10 ≤ fu) (u : Nat → Int64) (hu : nn u 9) (h9 : 0 ≤ (u 9).toInt ∧ (u 9).toInt < 2 ^ 22) : ∀ r i x n, i + r = 9 → 2 ≤ i → r < n → (0 ≤ x.toInt ∧ x.toInt < 2 ^ 26) → (x.toInt = 67108863 ↔ (u 9).toInt = 4194303 ∧ ∀ j, 2 ≤ j → j < i → (u j).toInt = 67108863) → ok (x_Cu_settle_115 fu n x (nI i) u) (fun f => stl f ∧ cong (Tv f 10) (Tv u 10)) := by
  intro r
  induction r with
  | zero =>
    intro i x n hi h2 hn hx h
    obtain ⟨n, rfl⟩ : ∃ m, n = m + 1 := ⟨n - 1, by omega⟩
    have : i = 9 := by omega
    subst this
    show ok (xb_Cu_settle_115 fu (x_Cu_settle_115 fu n) x (nI 9) u) _
    unfold xb_Cu_settle_115
    refine ok_t (show (9 : Int32) ≤ nI 9 from by decide) (ok_bnd (ok_bv fun v2 e2 => ok_bnd (ok_bnd (ok_bv fun v5 e5 => ?_))))
    replace e2 : v2 = u 0 + (977 : Int64) := e2
    replace e5 : v5 = u 1 + (64 : Int64) + (v2 >>> ((26 : Int32).toInt64 &&& 63)) := e5
    have q0 := hu 0 (by decide)
    have q1 := hu 1 (by decide)
    have i2 : v2.toInt = (u 0).toInt + 977 := by
      refine zz_i (by rw [e2]; exact zz_a (zz_s _) (zz_k rfl)) ?_ ?_
      · generalize (u 0).toInt = a at *; omega
      · generalize (u 0).toInt = a at *; omega
    have i5 : v5.toInt = (u 1).toInt + 64 + v2.toInt / 2 ^ 26 := by
      refine zz_i (by rw [e5]; exact zz_a (zz_a (zz_s _) (zz_k rfl)) (zz_k (l_s26 _))) ?_ ?_
      · generalize (u 0).toInt = a at *; generalize (u 1).toInt = b at *; generalize v2.toInt = c at *; omega
      · generalize (u 0).toInt = a at *; generalize (u 1).toInt = b at *; generalize v2.toInt = c at *; omega
    by_cases hA : x.toInt = 67108863
    · refine ok_t ((lg_c x _).1.mpr (show x.toInt = (67108863 : Int64).toInt from hA)) ?_
      have hA' := h.mp hA
      have e2' := hA'.2 2 (by decide) (by decide)
      have e3' := hA'.2 3 (by decide) (by decide)
      have e4' := hA'.2 4 (by decide) (by decide)
      have e5' := hA'.2 5 (by decide) (by decide)
      have e6' := hA'.2 6 (by decide) (by decide)
      have e7' := hA'.2 7 (by decide) (by decide)
      have e8' := hA'.2 8 (by decide) (by decide)
      have hT : Tv u 10 = (u 0).toInt + (u 1).toInt * 2 ^ 26 + (2 ^ 256 - 2 ^ 52) := by
        rw [T10, e2', e3', e4', e5', e6', e7', e8', hA'.1]
        generalize (u 0).toInt = a at *; generalize (u 1).toInt = b at *
        omega
      by_cases hB : v5.toInt ≤ 67108863
      · refine ok_t ((lg_le v5 _).mpr (show v5.toInt ≤ (67108863 : Int64).toInt from hB)) (ok_some ⟨⟨hu, h9, ?_⟩, cong_r _⟩)
        rw [hT]
        generalize (u 0).toInt = a at *; generalize (u 1).toInt = b at *; generalize v2.toInt = c at *; generalize v5.toInt = d at *
        omega
      · refine ok_f (fun q => hB ((lg_le v5 _).mp q)) ?_
        refine ok_mono (l_Cu_st175 fu v2 v5 u 8 2 u fu (by omega) (by omega) (by omega) (fun j j1 j2 => absurd j2 (by omega))) ?_
        intro f hf
        obtain ⟨f0, f1, fj⟩ := hf
        have z : (0 : Int64).toInt = 0 := rfl
        have hTf : Tv f 10 = v2.toInt % 2 ^ 26 + v5.toInt % 2 ^ 26 * 2 ^ 26 := by
          rw [T10, f0, f1, fj 2 (by decide) (by decide), fj 3 (by decide) (by decide), fj 4 (by decide) (by decide), fj 5 (by decide) (by decide), fj 6 (by decide) (by decide), fj 7 (by decide) (by decide), fj 8 (by decide) (by decide), fj 9 (by decide) (by decide), l_26, l_26, z]
          generalize v2.toInt = c at *; generalize v5.toInt = d at *
          omega
        refine ⟨⟨?_, ?_, ?_⟩, ⟨-1, ?_⟩⟩
        · intro j hj
          by_cases n0 : j = 0
          · rw [n0, f0, l_26]; generalize v2.toInt = c at *; omega
          by_cases n1 : j = 1
          · rw [n1, f1, l_26]; generalize v5.toInt = c at *; omega
          rw [fj j (by omega) (by omega), z]
          exact ⟨by decide, by decide⟩
        · rw [fj 9 (by decide) (by decide), z]
          exact ⟨by decide, by decide⟩
        · rw [hTf]
          generalize v2.toInt = c at *; generalize v5.toInt = d at *
          omega
        · rw [hTf, hT]
          generalize (u 0).toInt = a at *; generalize (u 1).toInt = b at *; generalize v2.toInt = c at *; generalize v5.toInt = d at *
          omega
    · refine ok_f (fun q => hA ((lg_c x _).1.mp q)) (ok_some ⟨⟨hu, h9, ?_⟩, cong_r _⟩)
      rw [T10]
      refine st_A (hu 0 (by decide)) (hu 1 (by decide)) (hu 2 (by decide)) (hu 3 (by decide)) (hu 4 (by decide)) (hu 5 (by decide)) (hu 6 (by decide)) (hu 7 (by decide)) (hu 8 (by decide)) h9 ?_
      intro hh
      refine hA (h.mpr ⟨hh.1, fun j j1 j2 => ?_⟩)
      have : j = 2 ∨ j = 3 ∨ j = 4 ∨ j = 5 ∨ j = 6 ∨ j = 7 ∨ j = 8 := by omega
      rcases this with rfl | rfl | rfl | rfl | rfl | rfl | rfl
      · exact hh.2.1
      · exact hh.2.2.1
      · exact hh.2.2.2.1
      · exact hh.2.2.2.2.1
      · exact hh.2.2.2.2.2.1
      · exact hh.2.2.2.2.2.2.1
      · exact hh.2.2.2.2.2.2.2
  | succ r ih =>
    intro i x n hi h2 hn hx h
    obtain ⟨n, rfl⟩ : ∃ m, n = m + 1 := ⟨n - 1, by omega⟩
    show ok (xb_Cu_settle_115 fu (x_Cu_settle_115 fu n) x (nI i) u) _
    unfold xb_Cu_settle_115
    refine ok_f (show ¬ (9 : Int32) ≤ nI i from nI_ge (b := 9) (by omega) (by decide)) (ok_gd (inb_nI (by omega) (by decide)) (ok_bnd (ok_bnd (ok_bnd ?_))))
    rw [nI_clamp (n := i) (by omega), nI_1]
    have := l_ones hx (hu i (by omega))
    refine ih (i + 1) _ n (by omega) (by omega) (by omega) this.1 (this.2.trans ?_)
    constructor
    · intro q
      have := h.mp q.1
      refine ⟨this.1, fun j j1 j2 => ?_⟩
      by_cases hj : j = i
      · rw [hj]; exact q.2
      · exact this.2 j j1 (by omega)
    · intro q
      exact ⟨h.mpr ⟨q.1, fun j j1 j2 => q.2 j j1 (by omega)⟩, q.2 i h2 (by omega)⟩
set_option maxHeartbeats 400000 in
theorem Tv_9 (u : Nat → Int64) : Tv u 10 = Tv u 9 + (u 9).toInt * 2 ^ 234 := rfl
set_option maxHeartbeats 400000 in
theorem v_Cu_settle (fu : Nat) (hfu : 10 ≤ fu) (u : Nat → Int64) (hu : ∀ j, j < 10 → -2 ^ 31 ≤ (u j).toInt ∧ (u j).toInt ≤ 2 ^ 31) : ok (x_Cu_settle fu u) (fun f => stl f ∧ cong (Tv f 10) (Tv u 10)) := by
  unfold x_Cu_settle
  suffices key : ∀ F n, 10 ≤ F → 3 ≤ n → ok (x_Cu_settle_2 F n (0 : Int32) u) (fun f => stl f ∧ cong (Tv f 10) (Tv u 10)) from key fu fu hfu (by omega)
  clear hfu fu
  intro F n hfu hn
  obtain ⟨m, rfl⟩ : ∃ m, n = m + 1 + 1 + 1 := ⟨n - 3, by omega⟩
  show ok (xb_Cu_settle_2 F (x_Cu_settle_2 F (m + 1 + 1)) (nI 0) u) _
  refine l_Cu_rd F hfu _ 0 (by decide) _ u hu ?_
  intro f g1 g2 g3 g4
  show ok (xb_Cu_settle_2 F (x_Cu_settle_2 F (m + 1)) (nI 1) f) _
  refine l_Cu_rd F hfu _ 1 (by decide) _ f ?_ ?_
  · intro j hj
    by_cases h9 : j = 9
    · rw [h9]; generalize (f 9).toInt = a at *; omega
    · have := g1 j (by omega)
      generalize (f j).toInt = a at *; omega
  intro f' k1 k2 k3 k4
  have hb := st_2 (Tv_9 f) (Tv_9 f') (Tv_nn g1).1 (Tv_nn g1).2 (Tv_nn k1).1 (Tv_nn k1).2 g2 g3 k4
  show ok (xb_Cu_settle_2 F (x_Cu_settle_2 F m) (nI 2) f') _
  have hc : cong (Tv f' 10) (Tv u 10) := ⟨-((f 9).toInt / 2 ^ 22) - (u 9).toInt / 2 ^ 22, by rw [k4, g4]; generalize (f 9).toInt / 2 ^ 22 = a; generalize (u 9).toInt / 2 ^ 22 = b; generalize Tv u 10 = t; omega⟩
  unfold xb_Cu_settle_2 xb_Cu_settle_112
  refine ok_t (show (2 : Int32) ≤ nI 2 from by decide) (ok_bnd ?_)
  show ok (if (lg_cmp (f' 9) (4194303 : Int64)) = 0 then _ else _) _
  by_cases h9 : (f' 9).toInt = 4194303
  · refine ok_t ((lg_c (f' 9) _).1.mpr (show (f' 9).toInt = (4194303 : Int64).toInt from h9)) ?_
    refine ok_mono (l_Cu_st115 F hfu f' k1 hb 7 2 _ F (by omega) (by omega) (by omega) ⟨by decide, by decide⟩ ⟨fun _ => ⟨h9, fun j j1 j2 => absurd j2 (by omega)⟩, fun _ => rfl⟩) ?_
    exact fun r hr => ⟨hr.1, cong_t hr.2 hc⟩
  · refine ok_f (fun q => h9 ((lg_c (f' 9) _).1.mp q)) ?_
    refine ok_mono (l_Cu_st115 F hfu f' k1 hb 7 2 _ F (by omega) (by omega) (by omega) ⟨by decide, by decide⟩ ⟨fun q => absurd q (by decide), fun q => absurd q.1 h9⟩) ?_
    exact fun r hr => ⟨hr.1, cong_t hr.2 hc⟩
