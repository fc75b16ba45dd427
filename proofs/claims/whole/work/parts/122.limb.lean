-- ten limbs of 26 bits
def Tv (h : Nat → Int64) : Nat → Int
  | 0 => 0
  | k + 1 => Tv h k + (h k).toInt * 2 ^ (26 * k)
set_option maxHeartbeats 400000 in
theorem Tv_c {h g : Nat → Int64} : ∀ {n}, (∀ j, j < n → h j = g j) → Tv h n = Tv g n
  | 0, _ => rfl
  | n + 1, e => by
    show Tv h n + _ = Tv g n + _
    rw [Tv_c (fun j hj => e j (Nat.lt_succ_of_lt hj)), e n (Nat.lt_succ_self n)]
/-- a 64-bit number that is this number, up to 2^64 -/
def zz (x : Int64) (X : Int) : Prop := x = Int64.ofInt X
set_option maxHeartbeats 400000 in
theorem zz_s (x : Int64) : zz x x.toInt := (Int64.ofInt_toInt x).symm
set_option maxHeartbeats 400000 in
theorem zz_a {x y : Int64} {X Y : Int} (h : zz x X) (g : zz y Y) : zz (x + y) (X + Y) := by
  unfold zz at *
  rw [h, g, Int64.ofInt_add]
set_option maxHeartbeats 400000 in
theorem zz_m {x y : Int64} {X Y : Int} (h : zz x X) (g : zz y Y) : zz (x * y) (X * Y) := by
  unfold zz at *
  rw [h, g, Int64.ofInt_mul]
set_option maxHeartbeats 400000 in
theorem zz_d {x y : Int64} {X Y : Int} (h : zz x X) (g : zz y Y) : zz (x - y) (X - Y) := by
  unfold zz at *
  rw [h, g, Int64.ofInt_sub]
set_option maxHeartbeats 400000 in
theorem zz_n {x : Int64} {X : Int} (h : zz x X) : zz (-x) (-X) := by
  unfold zz at *
  rw [h, Int64.ofInt_neg]
set_option maxHeartbeats 400000 in
theorem zz_k {x : Int64} {X : Int} (h : x.toInt = X) : zz x X := h ▸ zz_s x
set_option maxHeartbeats 400000 in
theorem zz_i {x : Int64} {X : Int} (h : zz x X) (h1 : -2 ^ 63 ≤ X) (h2 : X < 2 ^ 63) : x.toInt = X := by
  unfold zz at h
  rw [h]
  exact Int64.toInt_ofInt_of_le h1 h2
set_option maxHeartbeats 400000 in
theorem zz_sh6 (x : Int64) : x <<< ((6 : Int32).toInt64 &&& 63) = x * 64 := by
  apply Int64.toBitVec_inj.mp
  show x.toBitVec <<< (((6 : Int32).toInt64 &&& 63).toBitVec.smod 64).toNat = x.toBitVec * 64#64
  rw [show (((6 : Int32).toInt64 &&& 63).toBitVec.smod 64).toNat = 6 from by decide]
  exact BitVec.shiftLeft_eq_mul_twoPow x.toBitVec 6
set_option maxHeartbeats 400000 in
theorem l_s26 (x : Int64) : (x >>> ((26 : Int32).toInt64 &&& 63)).toInt = x.toInt / 2 ^ 26 := l_shr_i _ 26 (by decide)
set_option maxHeartbeats 400000 in
theorem l_s22 (x : Int64) : (x >>> ((22 : Int32).toInt64 &&& 63)).toInt = x.toInt / 2 ^ 22 := l_shr_i _ 22 (by decide)
set_option maxHeartbeats 400000 in
theorem l_26 (x : Int64) : (x &&& (67108863 : Int64)).toInt = x.toInt % 2 ^ 26 := l_and_i x 26 (by decide) (by decide)
set_option maxHeartbeats 400000 in
theorem l_22 (x : Int64) : (x &&& (4194303 : Int64)).toInt = x.toInt % 2 ^ 22 := l_and_i x 22 (by decide) (by decide)
set_option maxHeartbeats 400000 in
theorem T10 (h : Nat → Int64) : Tv h 10 = (h 0).toInt * 2 ^ 0 + (h 1).toInt * 2 ^ 26 + (h 2).toInt * 2 ^ 52 + (h 3).toInt * 2 ^ 78 + (h 4).toInt * 2 ^ 104 + (h 5).toInt * 2 ^ 130 + (h 6).toInt * 2 ^ 156 + (h 7).toInt * 2 ^ 182 + (h 8).toInt * 2 ^ 208 + (h 9).toInt * 2 ^ 234 := by
  show 0 + _ * 2 ^ 0 + _ + _ + _ + _ + _ + _ + _ + _ + _ = _
  rw [Int.zero_add]
set_option maxHeartbeats 400000 in
theorem mul_1 (a0 a1 a2 a3 a4 a5 a6 a7 a8 a9 b0 b1 b2 b3 b4 b5 b6 b7 b8 b9 : Int) : (a0 * 2 ^ 0 + a1 * 2 ^ 26 + a2 * 2 ^ 52 + a3 * 2 ^ 78 + a4 * 2 ^ 104 + a5 * 2 ^ 130 + a6 * 2 ^ 156 + a7 * 2 ^ 182 + a8 * 2 ^ 208 + a9 * 2 ^ 234) * (b0 * 2 ^ 0 + b1 * 2 ^ 26 + b2 * 2 ^ 52 + b3 * 2 ^ 78 + b4 * 2 ^ 104 + b5 * 2 ^ 130 + b6 * 2 ^ 156 + b7 * 2 ^ 182 + b8 * 2 ^ 208 + b9 * 2 ^ 234) = (a0 * b0) * 2 ^ 0 + (a0 * b1 + a1 * b0) * 2 ^ 26 + (a0 * b2 + a1 * b1 + a2 * b0) * 2 ^ 52 + (a0 * b3 + a1 * b2 + a2 * b1 + a3 * b0) * 2 ^ 78 + (a0 * b4 + a1 * b3 + a2 * b2 + a3 * b1 + a4 * b0) * 2 ^ 104 + (a0 * b5 + a1 * b4 + a2 * b3 + a3 * b2 + a4 * b1 + a5 * b0) * 2 ^ 130 + (a0 * b6 + a1 * b5 + a2 * b4 + a3 * b3 + a4 * b2 + a5 * b1 + a6 * b0) * 2 ^ 156 + (a0 * b7 + a1 * b6 + a2 * b5 + a3 * b4 + a4 * b3 + a5 * b2 + a6 * b1 + a7 * b0) * 2 ^ 182 + (a0 * b8 + a1 * b7 + a2 * b6 + a3 * b5 + a4 * b4 + a5 * b3 + a6 * b2 + a7 * b1 + a8 * b0) * 2 ^ 208 + (a0 * b9 + a1 * b8 + a2 * b7 + a3 * b6 + a4 * b5 + a5 * b4 + a6 * b3 + a7 * b2 + a8 * b1 + a9 * b0) * 2 ^ 234 + (a1 * b9 + a2 * b8 + a3 * b7 + a4 * b6 + a5 * b5 + a6 * b4 + a7 * b3 + a8 * b2 + a9 * b1) * 2 ^ 260 + (a2 * b9 + a3 * b8 + a4 * b7 + a5 * b6 + a6 * b5 + a7 * b4 + a8 * b3 + a9 * b2) * 2 ^ 286 + (a3 * b9 + a4 * b8 + a5 * b7 + a6 * b6 + a7 * b5 + a8 * b4 + a9 * b3) * 2 ^ 312 + (a4 * b9 + a5 * b8 + a6 * b7 + a7 * b6 + a8 * b5 + a9 * b4) * 2 ^ 338 + (a5 * b9 + a6 * b8 + a7 * b7 + a8 * b6 + a9 * b5) * 2 ^ 364 + (a6 * b9 + a7 * b8 + a8 * b7 + a9 * b6) * 2 ^ 390 + (a7 * b9 + a8 * b8 + a9 * b7) * 2 ^ 416 + (a8 * b9 + a9 * b8) * 2 ^ 442 + (a9 * b9) * 2 ^ 468 := by
  grind
set_option maxHeartbeats 400000 in
theorem mul_2 (s0 s1 s2 s3 s4 s5 s6 s7 s8 s9 s10 s11 s12 s13 s14 s15 s16 s17 s18 c10 c11 c12 c13 c14 c15 c16 c17 c18 : Int) (h10 : c10 = s10) (h11 : c11 = s11 + c10 / 2 ^ 26) (h12 : c12 = s12 + c11 / 2 ^ 26) (h13 : c13 = s13 + c12 / 2 ^ 26) (h14 : c14 = s14 + c13 / 2 ^ 26) (h15 : c15 = s15 + c14 / 2 ^ 26) (h16 : c16 = s16 + c15 / 2 ^ 26) (h17 : c17 = s17 + c16 / 2 ^ 26) (h18 : c18 = s18 + c17 / 2 ^ 26) : ∃ k : Int, (s0 + c10 % 2 ^ 26 * 15632 + c18 / 2 ^ 26 * 16007168) * 2 ^ 0 + (s1 + c11 % 2 ^ 26 * 15632 + c10 % 2 ^ 26 * 1024 + c18 / 2 ^ 26 * 1048576) * 2 ^ 26 + (s2 + c12 % 2 ^ 26 * 15632 + c11 % 2 ^ 26 * 1024) * 2 ^ 52 + (s3 + c13 % 2 ^ 26 * 15632 + c12 % 2 ^ 26 * 1024) * 2 ^ 78 + (s4 + c14 % 2 ^ 26 * 15632 + c13 % 2 ^ 26 * 1024) * 2 ^ 104 + (s5 + c15 % 2 ^ 26 * 15632 + c14 % 2 ^ 26 * 1024) * 2 ^ 130 + (s6 + c16 % 2 ^ 26 * 15632 + c15 % 2 ^ 26 * 1024) * 2 ^ 156 + (s7 + c17 % 2 ^ 26 * 15632 + c16 % 2 ^ 26 * 1024) * 2 ^ 182 + (s8 + c18 % 2 ^ 26 * 15632 + c17 % 2 ^ 26 * 1024) * 2 ^ 208 + (s9 + c18 / 2 ^ 26 * 15632 + c18 % 2 ^ 26 * 1024) * 2 ^ 234 = s0 * 2 ^ 0 + s1 * 2 ^ 26 + s2 * 2 ^ 52 + s3 * 2 ^ 78 + s4 * 2 ^ 104 + s5 * 2 ^ 130 + s6 * 2 ^ 156 + s7 * 2 ^ 182 + s8 * 2 ^ 208 + s9 * 2 ^ 234 + s10 * 2 ^ 260 + s11 * 2 ^ 286 + s12 * 2 ^ 312 + s13 * 2 ^ 338 + s14 * 2 ^ 364 + s15 * 2 ^ 390 + s16 * 2 ^ 416 + s17 * 2 ^ 442 + s18 * 2 ^ 468 + k * 115792089237316195423570985008687907853269984665640564039457584007908834671663 := by
  refine ⟨-(16 * (c10 % 2 ^ 26 * 2 ^ 0 + c11 % 2 ^ 26 * 2 ^ 26 + c12 % 2 ^ 26 * 2 ^ 52 + c13 % 2 ^ 26 * 2 ^ 78 + c14 % 2 ^ 26 * 2 ^ 104 + c15 % 2 ^ 26 * 2 ^ 130 + c16 % 2 ^ 26 * 2 ^ 156 + c17 % 2 ^ 26 * 2 ^ 182 + c18 % 2 ^ 26 * 2 ^ 208) + 16 * (c18 / 2 ^ 26) * (2 ^ 234 + 1024)), ?_⟩
  have e : ∀ x : Int, x % 2 ^ 26 = x - 2 ^ 26 * (x / 2 ^ 26) := fun x => Int.emod_def x (2 ^ 26)
  simp only [e]
  generalize c10 / 2 ^ 26 = d10 at *
  generalize c11 / 2 ^ 26 = d11 at *
  generalize c12 / 2 ^ 26 = d12 at *
  generalize c13 / 2 ^ 26 = d13 at *
  generalize c14 / 2 ^ 26 = d14 at *
  generalize c15 / 2 ^ 26 = d15 at *
  generalize c16 / 2 ^ 26 = d16 at *
  generalize c17 / 2 ^ 26 = d17 at *
  generalize c18 / 2 ^ 26 = d18 at *
  subst h18 h17 h16 h15 h14 h13 h12 h11 h10
  grind
/-- limbs up to s units -/
def sz (h : Nat → Int64) (s : Int) : Prop := ∀ i, i < 10 → -(s * 69206016) ≤ (h i).toInt ∧ (h i).toInt ≤ s * 69206016
def cong (a b : Int) : Prop := ∃ k : Int, a = b + k * 115792089237316195423570985008687907853269984665640564039457584007908834671663
set_option maxHeartbeats 400000 in
theorem cong_r (a : Int) : cong a a := ⟨0, by omega⟩
set_option maxHeartbeats 400000 in
theorem cong_t {a b c : Int} (h : cong a b) (g : cong b c) : cong a c := by
  obtain ⟨k, hk⟩ := h
  obtain ⟨l, hl⟩ := g
  exact ⟨k + l, by grind⟩
/-- carrying -/
def cR (X : Int) (w : Nat → Int64) (i : Nat) (u : Nat → Int64) : Prop := Tv u 10 = X ∧ (∀ j, j < i → 0 ≤ (u j).toInt ∧ (u j).toInt < 2 ^ 26) ∧ (-6341068275337658368 ≤ (u i).toInt ∧ (u i).toInt ≤ 6341068275337658368) ∧ ∀ j, i < j → u j = w j
set_option maxHeartbeats 400000 in
theorem Tv_two {f g : Nat → Int64} {i : Nat} (h : ∀ j, j ≠ i → j ≠ i + 1 → f j = g j) (e : (f i).toInt + (f (i + 1)).toInt * 2 ^ 26 = (g i).toInt + (g (i + 1)).toInt * 2 ^ 26) : ∀ n, i + 2 ≤ n → Tv f n = Tv g n := by
  intro n hn
  obtain ⟨m, rfl⟩ : ∃ m, n = i + 2 + m := ⟨n - (i + 2), by omega⟩
  clear hn
  induction m with
  | zero =>
    show Tv f i + (f i).toInt * 2 ^ (26 * i) + (f (i + 1)).toInt * 2 ^ (26 * (i + 1)) = Tv g i + (g i).toInt * 2 ^ (26 * i) + (g (i + 1)).toInt * 2 ^ (26 * (i + 1))
    rw [Tv_c (fun j hj => h j (by omega) (by omega)), show 26 * (i + 1) = 26 + 26 * i from by omega, Int.pow_add]
    generalize (2 : Int) ^ (26 * i) = q
    generalize (2 : Int) ^ 26 = p at *
    grind
  | succ m ih =>
    show Tv f (i + 2 + m) + (f (i + 2 + m)).toInt * _ = Tv g (i + 2 + m) + (g (i + 2 + m)).toInt * _
    rw [ih, h (i + 2 + m) (by omega) (by omega)]
set_option maxHeartbeats 400000 in
theorem cR_s {X : Int} {w u : Nat → Int64} {i : Nat} (hi : i < 9) (hw : ∀ j, j < 10 → -6341068275337658368 + 2 ^ 50 ≤ (w j).toInt ∧ (w j).toInt ≤ 6341068275337658368 - 2 ^ 50) (h : cR X w i u) : cR X w (i + 1) (vp_updL (vp_updL u (i + 1) (u (i + 1) + (u i >>> ((26 : Int32).toInt64 &&& 63)))) i (u i &&& (67108863 : Int64))) := by
  obtain ⟨h1, h2, h3, h4⟩ := h
  have e1 : u (i + 1) = w (i + 1) := h4 _ (by omega)
  have q := hw (i + 1) (by omega)
  rw [e1]
  have ea : (w (i + 1) + (u i >>> ((26 : Int32).toInt64 &&& 63))).toInt = (w (i + 1)).toInt + (u i).toInt / 2 ^ 26 := by
    rw [la, l_s26]
    · rw [l_s26]; generalize (u i).toInt = a at *; generalize (w (i + 1)).toInt = b at *; omega
    · rw [l_s26]; generalize (u i).toInt = a at *; generalize (w (i + 1)).toInt = b at *; omega
  have eb := l_26 (u i)
  generalize w (i + 1) + (u i >>> ((26 : Int32).toInt64 &&& 63)) = S at ea ⊢
  generalize u i &&& (67108863 : Int64) = R at eb ⊢
  have g1 : vp_updL (vp_updL u (i + 1) S) i R i = R := pk_uLs
  have g2 : vp_updL (vp_updL u (i + 1) S) i R (i + 1) = S := by rw [pk_uLn (by omega), pk_uLs]
  have g3 : ∀ j, j ≠ i → j ≠ i + 1 → vp_updL (vp_updL u (i + 1) S) i R j = u j := fun j n1 n2 => by rw [pk_uLn n1, pk_uLn n2]
  refine ⟨?_, ?_, ?_, ?_⟩
  · rw [← h1]
    refine Tv_two g3 ?_ 10 (by omega)
    rw [g1, g2, ea, eb, e1]
    generalize (u i).toInt = a at *
    generalize (w (i + 1)).toInt = b at *
    omega
  · intro j hj
    by_cases hji : j = i
    · rw [hji, g1, eb]
      generalize (u i).toInt = a at *
      omega
    · rw [g3 j hji (by omega)]
      exact h2 j (by omega)
  · rw [g2, ea]
    generalize (u i).toInt = a at *
    generalize (w (i + 1)).toInt = b at *
    omega
  · intro j hj
    rw [g3 j (by omega) (by omega)]
    exact h4 j (by omega)
set_option maxHeartbeats 400000 in
theorem cR_f {X : Int} {w u f : Nat → Int64} {v4 v7 v12 v15 v19 v22 : Int64} (h : cR X w 9 u) (e4 : v4 = u 9 &&& (4194303 : Int64)) (e7 : v7 = u 0 + ((u 9 >>> ((22 : Int32).toInt64 &&& 63)) * (977 : Int64))) (e12 : v12 = u 1 + (((u 9 >>> ((22 : Int32).toInt64 &&& 63)) <<< ((6 : Int32).toInt64 &&& 63)) + (v7 >>> ((26 : Int32).toInt64 &&& 63)))) (e15 : v15 = v7 &&& (67108863 : Int64)) (e19 : v19 = u 2 + (v12 >>> ((26 : Int32).toInt64 &&& 63))) (e22 : v22 = v12 &&& (67108863 : Int64)) (f0 : f 0 = v15) (f1 : f 1 = v22) (f2 : f 2 = v19) (f9 : f 9 = v4) (fj : ∀ j, 2 < j → j < 9 → f j = u j) : cong (Tv f 10) X ∧ sz f 1 := by
  obtain ⟨h1, h2, h3, h4⟩ := h
  have q0 := h2 0 (by decide)
  have q1 := h2 1 (by decide)
  have q2 := h2 2 (by decide)
  have i4 : v4.toInt = (u 9).toInt % 2 ^ 22 := by rw [e4, l_22]
  have io := l_s22 (u 9)
  generalize u 9 >>> ((22 : Int32).toInt64 &&& 63) = o at *
  have i7 : v7.toInt = (u 0).toInt + o.toInt * 977 := by
    refine zz_i (by rw [e7]; exact zz_a (zz_s _) (zz_m (zz_s _) (zz_k rfl))) ?_ ?_
    · generalize (u 9).toInt = a at *; generalize (u 0).toInt = b at *; generalize o.toInt = c at *; omega
    · generalize (u 9).toInt = a at *; generalize (u 0).toInt = b at *; generalize o.toInt = c at *; omega
  have i12 : v12.toInt = (u 1).toInt + (o.toInt * 64 + v7.toInt / 2 ^ 26) := by
    refine zz_i (by rw [e12, zz_sh6]; exact zz_a (zz_s _) (zz_a (zz_m (zz_s _) (zz_k rfl)) (zz_k (l_s26 _)))) ?_ ?_
    · generalize (u 9).toInt = a at *; generalize (u 0).toInt = b at *; generalize (u 1).toInt = b1 at *; generalize o.toInt = c at *; generalize v7.toInt = d at *; omega
    · generalize (u 9).toInt = a at *; generalize (u 0).toInt = b at *; generalize (u 1).toInt = b1 at *; generalize o.toInt = c at *; generalize v7.toInt = d at *; omega
  have i15 : v15.toInt = v7.toInt % 2 ^ 26 := by rw [e15, l_26]
  have i22 : v22.toInt = v12.toInt % 2 ^ 26 := by rw [e22, l_26]
  have b12 : -2 ^ 47 ≤ v12.toInt ∧ v12.toInt ≤ 2 ^ 47 := by
    generalize (u 9).toInt = a at *; generalize (u 0).toInt = b at *; generalize (u 1).toInt = b1 at *; generalize o.toInt = c at *; generalize v7.toInt = d at *; generalize v12.toInt = e at *; omega
  have i19 : v19.toInt = (u 2).toInt + v12.toInt / 2 ^ 26 := by
    refine zz_i (by rw [e19]; exact zz_a (zz_s _) (zz_k (l_s26 _))) ?_ ?_
    · generalize (u 2).toInt = a at *; generalize v12.toInt = e at *; omega
    · generalize (u 2).toInt = a at *; generalize v12.toInt = e at *; omega
  refine ⟨⟨-o.toInt, ?_⟩, ?_⟩
  · rw [← h1, T10, T10, f0, f1, f2, f9, fj 3 (by decide) (by decide), fj 4 (by decide) (by decide), fj 5 (by decide) (by decide), fj 6 (by decide) (by decide), fj 7 (by decide) (by decide), fj 8 (by decide) (by decide)]
    rw [i4, i15, i22, i19, Int.emod_def, Int.emod_def, Int.emod_def, ← io]
    generalize v12.toInt / 2 ^ 26 = d12 at *
    generalize v7.toInt / 2 ^ 26 = d7 at *
    generalize (u 0).toInt = a0 at *; generalize (u 1).toInt = a1 at *; generalize (u 2).toInt = a2 at *
    generalize (u 3).toInt = a3 at *; generalize (u 4).toInt = a4 at *; generalize (u 5).toInt = a5 at *
    generalize (u 6).toInt = a6 at *; generalize (u 7).toInt = a7 at *; generalize (u 8).toInt = a8 at *
    rw [i12, i7]
    clear h2 h3 h4 q0 q1 q2 i4 io i7 i12 i15 i22 b12 i19
    generalize (u 9).toInt = a9 at *
    generalize o.toInt = o at *
    grind
  · intro i hi
    by_cases n0 : i = 0
    · rw [n0, f0, i15]; generalize v7.toInt = a at *; omega
    by_cases n1 : i = 1
    · rw [n1, f1, i22]; generalize v12.toInt = a at *; omega
    by_cases n2 : i = 2
    · rw [n2, f2, i19]; generalize v12.toInt = a at *; generalize (u 2).toInt = b at *; omega
    by_cases n9 : i = 9
    · rw [n9, f9, i4]; generalize (u 9).toInt = a at *; omega
    rw [fj i (by omega) (by omega)]
    have q := h2 i (by omega)
    generalize (u i).toInt = a at *
    omega
set_option maxHeartbeats 400000 in
theorem l_Cu_mul (fu : Nat) (h0 h1 w : Nat → Int64) (X : Int) (hw : ∀ j, j < 10 → -6341068275337658368 + 2 ^ 50 ≤ (w j).toInt ∧ (w j).toInt ≤ 6341068275337658368 - 2 ^ 50) : ∀ r i u n, i + r = 9 → r < n → cR X w i u → ok (x_Cu_multiply_1007 fu h0 h1 n (nI i) u) (fun f => cong (Tv f 10) X ∧ sz f 1) := by
  intro r
  induction r with
  | zero =>
    intro i u n hi hn h
    obtain ⟨n, rfl⟩ : ∃ m, n = m + 1 := ⟨n - 1, by omega⟩
    have : i = 9 := by omega
    subst this
    show ok (xb_Cu_multiply_1007 fu h0 h1 (x_Cu_multiply_1007 fu h0 h1 n) (nI 9) u) _
    unfold xb_Cu_multiply_1007
    refine ok_t (show (9 : Int32) ≤ nI 9 from by decide) ?_
    refine ok_bnd (ok_bnd (ok_bnd (ok_bv fun v4 e4 => ok_bnd (ok_bnd (ok_bv fun v7 e7 => ok_bnd (ok_bnd (ok_bnd (ok_bnd (ok_bv fun v12 e12 => ok_bnd (ok_bnd (ok_bv fun v15 e15 => ok_bnd (ok_bnd (ok_bnd (ok_bv fun v19 e19 => ok_bnd (ok_bnd (ok_bv fun v22 e22 => ok_bnd (ok_some ?_)))))))))))))))))
    replace e4 : v4 = u 9 &&& (4194303 : Int64) := e4
    refine cR_f (v4 := v4) (v7 := v7) (v12 := v12) (v15 := v15) (v19 := v19) (v22 := v22) h e4 ?_ ?_ ?_ ?_ ?_ ?_ ?_ ?_ ?_ ?_
    · rw [e7]; rfl
    · rw [e12]; rfl
    · rw [e15]; rfl
    · rw [e19]; rfl
    · rw [e22]; rfl
    · rfl
    · rfl
    · rfl
    · rfl
    · intro j j1 j2
      show vp_updL (vp_updL (vp_updL (vp_updL (vp_updL (vp_updL u 9 v4) 0 v7) 1 v12) 0 v15) 2 v19) 1 v22 j = u j
      rw [pk_uLn (show j ≠ 1 by omega), pk_uLn (show j ≠ 2 by omega), pk_uLn (show j ≠ 0 by omega), pk_uLn (show j ≠ 1 by omega), pk_uLn (show j ≠ 0 by omega), pk_uLn (show j ≠ 9 by omega)]
  | succ r ih =>
    intro i u n hi hn h
    obtain ⟨n, rfl⟩ : ∃ m, n = m + 1 := ⟨n - 1, by omega⟩
    show ok (xb_Cu_multiply_1007 fu h0 h1 (x_Cu_multiply_1007 fu h0 h1 n) (nI i) u) _
    unfold xb_Cu_multiply_1007
    refine ok_f (show ¬ (9 : Int32) ≤ nI i from nI_ge (b := 9) (by omega) (by decide)) ?_
    rw [nI_1]
    refine ok_bnd (ok_gd (inb_nI (by omega) (by decide)) (ok_bnd (ok_gd (inb_nI (by omega) (by decide)) (ok_bnd (ok_bnd (ok_gd (inb_nI (by omega) (by decide)) (ok_bnd (ok_gd (inb_nI (by omega) (by decide)) (ok_bnd (ok_bnd (ok_gd (inb_nI (by omega) (by decide)) (ok_bnd (ok_bnd ?_)))))))))))))
    rw [nI_clamp (n := i) (by omega), nI_clamp (n := i + 1) (by omega), pk_uLn (show i ≠ i + 1 by omega)]
    exact ih (i + 1) _ n (by omega) (by omega) (cR_s (by omega) hw h)
set_option maxHeartbeats 400000 in
theorem cR_0 {a : Int} (h : -6341068275337658368 + 2 ^ 50 ≤ a ∧ a ≤ 6341068275337658368 - 2 ^ 50) : -6341068275337658368 ≤ a ∧ a ≤ 6341068275337658368 := by omega
/-- with a bound -/
def zb (x : Int64) (X a : Int) : Prop := zz x X ∧ -a ≤ X ∧ X ≤ a
set_option maxHeartbeats 400000 in
theorem zb_a {x y : Int64} {X Y a b : Int} (h : zb x X a) (g : zb y Y b) : zb (x + y) (X + Y) (a + b) := by
  refine ⟨zz_a h.1 g.1, ?_, ?_⟩
  · have h1 := h.2.1
    have g1 := g.2.1
    omega
  · have h1 := h.2.2
    have g1 := g.2.2
    omega
set_option maxHeartbeats 400000 in
theorem zb_mk {x k : Int64} {X a K : Int} (h : zb x X a) (g : k.toInt = K) (hK : 0 ≤ K) : zb (x * k) (X * K) (a * K) := by
  refine ⟨zz_m h.1 (zz_k g), ?_, Int.mul_le_mul_of_nonneg_right h.2.2 hK⟩
  rw [← Int.neg_mul]
  exact Int.mul_le_mul_of_nonneg_right h.2.1 hK
set_option maxHeartbeats 400000 in
theorem zb_f {x y : Int64} {X a : Int} (e : x = y) (h : zb y X a) (ha : a ≤ 6341068275337658368 - 2 ^ 50) : x.toInt = X ∧ -6341068275337658368 + 2 ^ 50 ≤ x.toInt ∧ x.toInt ≤ 6341068275337658368 - 2 ^ 50 := by
  have h1 := h.2.1
  have h2 := h.2.2
  rw [e, zz_i h.1 (by omega) (by omega)]
  exact ⟨rfl, by omega, by omega⟩
set_option maxHeartbeats 400000 in
theorem zb_g {x y : Int64} {X a : Int} (e : x = y) (h : zb y X a) (ha : a ≤ 6341068275337658368 - 2 ^ 50) (hb : a ≤ 2 ^ 60) : -2 ^ 60 ≤ x.toInt ∧ x.toInt ≤ 2 ^ 60 := by
  have h1 := h.2.1
  have h2 := h.2.2
  rw [e, zz_i h.1 (by omega) (by omega)]
  exact ⟨by omega, by omega⟩
set_option maxHeartbeats 400000 in
theorem zb_sh {x : Int64} {X : Int} (h : x.toInt = X ∧ -6341068275337658368 + 2 ^ 50 ≤ x.toInt ∧ x.toInt ≤ 6341068275337658368 - 2 ^ 50) : zb (x >>> ((26 : Int32).toInt64 &&& 63)) (x.toInt / 2 ^ 26) (2 ^ 37) := by
  obtain ⟨-, h1, h2⟩ := h
  refine ⟨zz_k (l_s26 x), ?_, ?_⟩
  · generalize x.toInt = a at *
    omega
  · generalize x.toInt = a at *
    omega
set_option maxHeartbeats 400000 in
theorem zb_26 {x y : Int64} (e : x = y &&& (67108863 : Int64)) : x.toInt = y.toInt % 2 ^ 26 ∧ zb x x.toInt (2 ^ 26) := by
  have h := l_26 y
  rw [← e] at h
  refine ⟨h, zz_s x, ?_, ?_⟩
  · rw [h]
    generalize y.toInt = a at *
    omega
  · rw [h]
    generalize y.toInt = a at *
    omega
set_option maxHeartbeats 400000 in
theorem zb_74 {x y : Int64} (e : x = y >>> ((26 : Int32).toInt64 &&& 63)) (h : -2 ^ 60 ≤ y.toInt ∧ y.toInt ≤ 2 ^ 60) : zb x x.toInt (2 ^ 34) := by
  have h3 := l_s26 y
  rw [← e] at h3
  obtain ⟨h1, h2⟩ := h
  refine ⟨zz_s x, ?_, ?_⟩
  · rw [h3]
    generalize y.toInt = a at *
    omega
  · rw [h3]
    generalize y.toInt = a at *
    omega
set_option maxHeartbeats 400000 in
theorem v_Cu_multiply (fu : Nat) (hfu : 10 ≤ fu) (h0 h1 w : Nat → Int64) (hb : ∀ i j, i < 10 → j < 10 → -2 ^ 59 ≤ (h0 i).toInt * (h1 j).toInt ∧ (h0 i).toInt * (h1 j).toInt ≤ 2 ^ 59) : ok (x_Cu_multiply fu h0 h1 w) (fun f => cong (Tv f 10) (Tv h0 10 * Tv h1 10) ∧ sz f 1) := by
  have P : ∀ i j, i < 10 → j < 10 → zb (h0 i * h1 j) ((h0 i).toInt * (h1 j).toInt) (2 ^ 59) := fun i j hi hj => ⟨zz_m (zz_s _) (zz_s _), hb i j hi hj⟩
  unfold x_Cu_multiply
  refine ok_bn (show h0 (0 : Int32).toNatClampNeg = h0 0 from rfl) ?_
  refine ok_bn (show h0 (1 : Int32).toNatClampNeg = h0 1 from rfl) ?_
  refine ok_bn (show h0 (2 : Int32).toNatClampNeg = h0 2 from rfl) ?_
  refine ok_bn (show h0 (3 : Int32).toNatClampNeg = h0 3 from rfl) ?_
  refine ok_bn (show h0 (4 : Int32).toNatClampNeg = h0 4 from rfl) ?_
  refine ok_bn (show h0 (5 : Int32).toNatClampNeg = h0 5 from rfl) ?_
  refine ok_bn (show h0 (6 : Int32).toNatClampNeg = h0 6 from rfl) ?_
  refine ok_bn (show h0 (7 : Int32).toNatClampNeg = h0 7 from rfl) ?_
  refine ok_bn (show h0 (8 : Int32).toNatClampNeg = h0 8 from rfl) ?_
  refine ok_bn (show h0 (9 : Int32).toNatClampNeg = h0 9 from rfl) ?_
  refine ok_bn (show h1 (0 : Int32).toNatClampNeg = h1 0 from rfl) ?_
  refine ok_bn (show h1 (1 : Int32).toNatClampNeg = h1 1 from rfl) ?_
  refine ok_bn (show h1 (2 : Int32).toNatClampNeg = h1 2 from rfl) ?_
  refine ok_bn (show h1 (3 : Int32).toNatClampNeg = h1 3 from rfl) ?_
  refine ok_bn (show h1 (4 : Int32).toNatClampNeg = h1 4 from rfl) ?_
  refine ok_bn (show h1 (5 : Int32).toNatClampNeg = h1 5 from rfl) ?_
  refine ok_bn (show h1 (6 : Int32).toNatClampNeg = h1 6 from rfl) ?_
  refine ok_bn (show h1 (7 : Int32).toNatClampNeg = h1 7 from rfl) ?_
  refine ok_bn (show h1 (8 : Int32).toNatClampNeg = h1 8 from rfl) ?_
  refine ok_bn (show h1 (9 : Int32).toNatClampNeg = h1 9 from rfl) ?_
  refine ok_bnd ?_
  refine ok_bnd ?_
  refine ok_bnd ?_
  refine ok_bnd ?_
  refine ok_bnd ?_
  refine ok_bnd ?_
  refine ok_bnd ?_
  refine ok_bnd ?_
  refine ok_bv fun v29 ev29 => ?_
  have iv29 : v29.toInt = (((((((((h0 1).toInt * (h1 9).toInt) + ((h0 2).toInt * (h1 8).toInt)) + ((h0 3).toInt * (h1 7).toInt)) + ((h0 4).toInt * (h1 6).toInt)) + ((h0 5).toInt * (h1 5).toInt)) + ((h0 6).toInt * (h1 4).toInt)) + ((h0 7).toInt * (h1 3).toInt)) + ((h0 8).toInt * (h1 2).toInt)) + ((h0 9).toInt * (h1 1).toInt) ∧ -6341068275337658368 + 2 ^ 50 ≤ v29.toInt ∧ v29.toInt ≤ 6341068275337658368 - 2 ^ 50 := zb_f ev29 (zb_a (zb_a (zb_a (zb_a (zb_a (zb_a (zb_a (zb_a (P 1 9 (by decide) (by decide)) (P 2 8 (by decide) (by decide))) (P 3 7 (by decide) (by decide))) (P 4 6 (by decide) (by decide))) (P 5 5 (by decide) (by decide))) (P 6 4 (by decide) (by decide))) (P 7 3 (by decide) (by decide))) (P 8 2 (by decide) (by decide))) (P 9 1 (by decide) (by decide))) (by decide)
  refine ok_bnd ?_
  refine ok_bnd ?_
  refine ok_bnd ?_
  refine ok_bnd ?_
  refine ok_bnd ?_
  refine ok_bnd ?_
  refine ok_bnd ?_
  refine ok_bnd ?_
  refine ok_bv fun v38 ev38 => ?_
  have iv38 : v38.toInt = (((((((((h0 2).toInt * (h1 9).toInt) + ((h0 3).toInt * (h1 8).toInt)) + ((h0 4).toInt * (h1 7).toInt)) + ((h0 5).toInt * (h1 6).toInt)) + ((h0 6).toInt * (h1 5).toInt)) + ((h0 7).toInt * (h1 4).toInt)) + ((h0 8).toInt * (h1 3).toInt)) + ((h0 9).toInt * (h1 2).toInt)) + (v29.toInt / 2 ^ 26) ∧ -6341068275337658368 + 2 ^ 50 ≤ v38.toInt ∧ v38.toInt ≤ 6341068275337658368 - 2 ^ 50 := zb_f ev38 (zb_a (zb_a (zb_a (zb_a (zb_a (zb_a (zb_a (zb_a (P 2 9 (by decide) (by decide)) (P 3 8 (by decide) (by decide))) (P 4 7 (by decide) (by decide))) (P 5 6 (by decide) (by decide))) (P 6 5 (by decide) (by decide))) (P 7 4 (by decide) (by decide))) (P 8 3 (by decide) (by decide))) (P 9 2 (by decide) (by decide))) (zb_sh iv29)) (by decide)
  refine ok_bnd ?_
  refine ok_bnd ?_
  refine ok_bnd ?_
  refine ok_bnd ?_
  refine ok_bnd ?_
  refine ok_bnd ?_
  refine ok_bnd ?_
  refine ok_bv fun v46 ev46 => ?_
  have iv46 : v46.toInt = ((((((((h0 3).toInt * (h1 9).toInt) + ((h0 4).toInt * (h1 8).toInt)) + ((h0 5).toInt * (h1 7).toInt)) + ((h0 6).toInt * (h1 6).toInt)) + ((h0 7).toInt * (h1 5).toInt)) + ((h0 8).toInt * (h1 4).toInt)) + ((h0 9).toInt * (h1 3).toInt)) + (v38.toInt / 2 ^ 26) ∧ -6341068275337658368 + 2 ^ 50 ≤ v46.toInt ∧ v46.toInt ≤ 6341068275337658368 - 2 ^ 50 := zb_f ev46 (zb_a (zb_a (zb_a (zb_a (zb_a (zb_a (zb_a (P 3 9 (by decide) (by decide)) (P 4 8 (by decide) (by decide))) (P 5 7 (by decide) (by decide))) (P 6 6 (by decide) (by decide))) (P 7 5 (by decide) (by decide))) (P 8 4 (by decide) (by decide))) (P 9 3 (by decide) (by decide))) (zb_sh iv38)) (by decide)
  refine ok_bnd ?_
  refine ok_bnd ?_
  refine ok_bnd ?_
  refine ok_bnd ?_
  refine ok_bnd ?_
  refine ok_bnd ?_
  refine ok_bv fun v53 ev53 => ?_
  have iv53 : v53.toInt = (((((((h0 4).toInt * (h1 9).toInt) + ((h0 5).toInt * (h1 8).toInt)) + ((h0 6).toInt * (h1 7).toInt)) + ((h0 7).toInt * (h1 6).toInt)) + ((h0 8).toInt * (h1 5).toInt)) + ((h0 9).toInt * (h1 4).toInt)) + (v46.toInt / 2 ^ 26) ∧ -6341068275337658368 + 2 ^ 50 ≤ v53.toInt ∧ v53.toInt ≤ 6341068275337658368 - 2 ^ 50 := zb_f ev53 (zb_a (zb_a (zb_a (zb_a (zb_a (zb_a (P 4 9 (by decide) (by decide)) (P 5 8 (by decide) (by decide))) (P 6 7 (by decide) (by decide))) (P 7 6 (by decide) (by decide))) (P 8 5 (by decide) (by decide))) (P 9 4 (by decide) (by decide))) (zb_sh iv46)) (by decide)
  refine ok_bnd ?_
  refine ok_bnd ?_
  refine ok_bnd ?_
  refine ok_bnd ?_
  refine ok_bnd ?_
  refine ok_bv fun v59 ev59 => ?_
  have iv59 : v59.toInt = ((((((h0 5).toInt * (h1 9).toInt) + ((h0 6).toInt * (h1 8).toInt)) + ((h0 7).toInt * (h1 7).toInt)) + ((h0 8).toInt * (h1 6).toInt)) + ((h0 9).toInt * (h1 5).toInt)) + (v53.toInt / 2 ^ 26) ∧ -6341068275337658368 + 2 ^ 50 ≤ v59.toInt ∧ v59.toInt ≤ 6341068275337658368 - 2 ^ 50 := zb_f ev59 (zb_a (zb_a (zb_a (zb_a (zb_a (P 5 9 (by decide) (by decide)) (P 6 8 (by decide) (by decide))) (P 7 7 (by decide) (by decide))) (P 8 6 (by decide) (by decide))) (P 9 5 (by decide) (by decide))) (zb_sh iv53)) (by decide)
  refine ok_bnd ?_
  refine ok_bnd ?_
  refine ok_bnd ?_
  refine ok_bnd ?_
  refine ok_bv fun v64 ev64 => ?_
  have iv64 : v64.toInt = (((((h0 6).toInt * (h1 9).toInt) + ((h0 7).toInt * (h1 8).toInt)) + ((h0 8).toInt * (h1 7).toInt)) + ((h0 9).toInt * (h1 6).toInt)) + (v59.toInt / 2 ^ 26) ∧ -6341068275337658368 + 2 ^ 50 ≤ v64.toInt ∧ v64.toInt ≤ 6341068275337658368 - 2 ^ 50 := zb_f ev64 (zb_a (zb_a (zb_a (zb_a (P 6 9 (by decide) (by decide)) (P 7 8 (by decide) (by decide))) (P 8 7 (by decide) (by decide))) (P 9 6 (by decide) (by decide))) (zb_sh iv59)) (by decide)
  refine ok_bnd ?_
  refine ok_bnd ?_
  refine ok_bnd ?_
  refine ok_bv fun v68 ev68 => ?_
  have iv68 : v68.toInt = ((((h0 7).toInt * (h1 9).toInt) + ((h0 8).toInt * (h1 8).toInt)) + ((h0 9).toInt * (h1 7).toInt)) + (v64.toInt / 2 ^ 26) ∧ -6341068275337658368 + 2 ^ 50 ≤ v68.toInt ∧ v68.toInt ≤ 6341068275337658368 - 2 ^ 50 := zb_f ev68 (zb_a (zb_a (zb_a (P 7 9 (by decide) (by decide)) (P 8 8 (by decide) (by decide))) (P 9 7 (by decide) (by decide))) (zb_sh iv64)) (by decide)
  refine ok_bnd ?_
  refine ok_bnd ?_
  refine ok_bv fun v71 ev71 => ?_
  have iv71 : v71.toInt = (((h0 8).toInt * (h1 9).toInt) + ((h0 9).toInt * (h1 8).toInt)) + (v68.toInt / 2 ^ 26) ∧ -6341068275337658368 + 2 ^ 50 ≤ v71.toInt ∧ v71.toInt ≤ 6341068275337658368 - 2 ^ 50 := zb_f ev71 (zb_a (zb_a (P 8 9 (by decide) (by decide)) (P 9 8 (by decide) (by decide))) (zb_sh iv68)) (by decide)
  refine ok_bnd ?_
  refine ok_bv fun v73 ev73 => ?_
  have iv73 : v73.toInt = ((h0 9).toInt * (h1 9).toInt) + (v71.toInt / 2 ^ 26) ∧ -6341068275337658368 + 2 ^ 50 ≤ v73.toInt ∧ v73.toInt ≤ 6341068275337658368 - 2 ^ 50 := zb_f ev73 (zb_a (P 9 9 (by decide) (by decide)) (zb_sh iv71)) (by decide)
  have c73 : -2 ^ 60 ≤ v73.toInt ∧ v73.toInt ≤ 2 ^ 60 := zb_g ev73 (zb_a (P 9 9 (by decide) (by decide)) (zb_sh iv71)) (by decide) (by decide)
  refine ok_bv fun v74 ev74 => ?_
  have iv74 : v74.toInt = v73.toInt / 2 ^ 26 := by rw [ev74, l_s26]
  have bv74 : zb v74 v74.toInt (2 ^ 34) := zb_74 ev74 c73
  refine ok_bv fun v75 ev75 => ?_
  obtain ⟨iv75, bv75⟩ := zb_26 ev75
  refine ok_bv fun v76 ev76 => ?_
  obtain ⟨iv76, bv76⟩ := zb_26 ev76
  refine ok_bv fun v77 ev77 => ?_
  obtain ⟨iv77, bv77⟩ := zb_26 ev77
  refine ok_bv fun v78 ev78 => ?_
  obtain ⟨iv78, bv78⟩ := zb_26 ev78
  refine ok_bv fun v79 ev79 => ?_
  obtain ⟨iv79, bv79⟩ := zb_26 ev79
  refine ok_bv fun v80 ev80 => ?_
  obtain ⟨iv80, bv80⟩ := zb_26 ev80
  refine ok_bv fun v81 ev81 => ?_
  obtain ⟨iv81, bv81⟩ := zb_26 ev81
  refine ok_bv fun v82 ev82 => ?_
  obtain ⟨iv82, bv82⟩ := zb_26 ev82
  refine ok_bv fun v83 ev83 => ?_
  obtain ⟨iv83, bv83⟩ := zb_26 ev83
  refine ok_bnd ?_
  refine ok_bnd ?_
  refine ok_bv fun v86 ev86 => ?_
  have iv86 : v86.toInt = (((h0 0).toInt * (h1 0).toInt) + (v75.toInt * 15632)) + (v74.toInt * 16007168) ∧ -6341068275337658368 + 2 ^ 50 ≤ v86.toInt ∧ v86.toInt ≤ 6341068275337658368 - 2 ^ 50 := zb_f ev86 (zb_a (zb_a (P 0 0 (by decide) (by decide)) (zb_mk bv75 (show (15632 : Int64).toInt = 15632 from rfl) (by decide))) (zb_mk bv74 (show (16007168 : Int64).toInt = 16007168 from rfl) (by decide))) (by decide)
  refine ok_bnd ?_
  refine ok_bnd ?_
  refine ok_bnd ?_
  refine ok_bnd ?_
  refine ok_bnd ?_
  refine ok_bv fun v92 ev92 => ?_
  have iv92 : v92.toInt = (((((h0 0).toInt * (h1 1).toInt) + ((h0 1).toInt * (h1 0).toInt)) + (v76.toInt * 15632)) + (v75.toInt * 1024)) + (v74.toInt * 1048576) ∧ -6341068275337658368 + 2 ^ 50 ≤ v92.toInt ∧ v92.toInt ≤ 6341068275337658368 - 2 ^ 50 := zb_f ev92 (zb_a (zb_a (zb_a (zb_a (P 0 1 (by decide) (by decide)) (P 1 0 (by decide) (by decide))) (zb_mk bv76 (show (15632 : Int64).toInt = 15632 from rfl) (by decide))) (zb_mk bv75 (show (1024 : Int64).toInt = 1024 from rfl) (by decide))) (zb_mk bv74 (show (1048576 : Int64).toInt = 1048576 from rfl) (by decide))) (by decide)
  refine ok_bnd ?_
  refine ok_bnd ?_
  refine ok_bnd ?_
  refine ok_bnd ?_
  refine ok_bnd ?_
  refine ok_bv fun v98 ev98 => ?_
  have iv98 : v98.toInt = (((((h0 0).toInt * (h1 2).toInt) + ((h0 1).toInt * (h1 1).toInt)) + ((h0 2).toInt * (h1 0).toInt)) + (v77.toInt * 15632)) + (v76.toInt * 1024) ∧ -6341068275337658368 + 2 ^ 50 ≤ v98.toInt ∧ v98.toInt ≤ 6341068275337658368 - 2 ^ 50 := zb_f ev98 (zb_a (zb_a (zb_a (zb_a (P 0 2 (by decide) (by decide)) (P 1 1 (by decide) (by decide))) (P 2 0 (by decide) (by decide))) (zb_mk bv77 (show (15632 : Int64).toInt = 15632 from rfl) (by decide))) (zb_mk bv76 (show (1024 : Int64).toInt = 1024 from rfl) (by decide))) (by decide)
  refine ok_bnd ?_
  refine ok_bnd ?_
  refine ok_bnd ?_
  refine ok_bnd ?_
  refine ok_bnd ?_
  refine ok_bnd ?_
  refine ok_bv fun v105 ev105 => ?_
  have iv105 : v105.toInt = ((((((h0 0).toInt * (h1 3).toInt) + ((h0 1).toInt * (h1 2).toInt)) + ((h0 2).toInt * (h1 1).toInt)) + ((h0 3).toInt * (h1 0).toInt)) + (v78.toInt * 15632)) + (v77.toInt * 1024) ∧ -6341068275337658368 + 2 ^ 50 ≤ v105.toInt ∧ v105.toInt ≤ 6341068275337658368 - 2 ^ 50 := zb_f ev105 (zb_a (zb_a (zb_a (zb_a (zb_a (P 0 3 (by decide) (by decide)) (P 1 2 (by decide) (by decide))) (P 2 1 (by decide) (by decide))) (P 3 0 (by decide) (by decide))) (zb_mk bv78 (show (15632 : Int64).toInt = 15632 from rfl) (by decide))) (zb_mk bv77 (show (1024 : Int64).toInt = 1024 from rfl) (by decide))) (by decide)
  refine ok_bnd ?_
  refine ok_bnd ?_
  refine ok_bnd ?_
  refine ok_bnd ?_
  refine ok_bnd ?_
  refine ok_bnd ?_
  refine ok_bnd ?_
  refine ok_bv fun v113 ev113 => ?_
  have iv113 : v113.toInt = (((((((h0 0).toInt * (h1 4).toInt) + ((h0 1).toInt * (h1 3).toInt)) + ((h0 2).toInt * (h1 2).toInt)) + ((h0 3).toInt * (h1 1).toInt)) + ((h0 4).toInt * (h1 0).toInt)) + (v79.toInt * 15632)) + (v78.toInt * 1024) ∧ -6341068275337658368 + 2 ^ 50 ≤ v113.toInt ∧ v113.toInt ≤ 6341068275337658368 - 2 ^ 50 := zb_f ev113 (zb_a (zb_a (zb_a (zb_a (zb_a (zb_a (P 0 4 (by decide) (by decide)) (P 1 3 (by decide) (by decide))) (P 2 2 (by decide) (by decide))) (P 3 1 (by decide) (by decide))) (P 4 0 (by decide) (by decide))) (zb_mk bv79 (show (15632 : Int64).toInt = 15632 from rfl) (by decide))) (zb_mk bv78 (show (1024 : Int64).toInt = 1024 from rfl) (by decide))) (by decide)
  refine ok_bnd ?_
  refine ok_bnd ?_
  refine ok_bnd ?_
  refine ok_bnd ?_
  refine ok_bnd ?_
  refine ok_bnd ?_
  refine ok_bnd ?_
  refine ok_bnd ?_
  refine ok_bv fun v122 ev122 => ?_
  have iv122 : v122.toInt = ((((((((h0 0).toInt * (h1 5).toInt) + ((h0 1).toInt * (h1 4).toInt)) + ((h0 2).toInt * (h1 3).toInt)) + ((h0 3).toInt * (h1 2).toInt)) + ((h0 4).toInt * (h1 1).toInt)) + ((h0 5).toInt * (h1 0).toInt)) + (v80.toInt * 15632)) + (v79.toInt * 1024) ∧ -6341068275337658368 + 2 ^ 50 ≤ v122.toInt ∧ v122.toInt ≤ 6341068275337658368 - 2 ^ 50 := zb_f ev122 (zb_a (zb_a (zb_a (zb_a (zb_a (zb_a (zb_a (P 0 5 (by decide) (by decide)) (P 1 4 (by decide) (by decide))) (P 2 3 (by decide) (by decide))) (P 3 2 (by decide) (by decide))) (P 4 1 (by decide) (by decide))) (P 5 0 (by decide) (by decide))) (zb_mk bv80 (show (15632 : Int64).toInt = 15632 from rfl) (by decide))) (zb_mk bv79 (show (1024 : Int64).toInt = 1024 from rfl) (by decide))) (by decide)
  refine ok_bnd ?_
  refine ok_bnd ?_
  refine ok_bnd ?_
  refine ok_bnd ?_
  refine ok_bnd ?_
  refine ok_bnd ?_
  refine ok_bnd ?_
  refine ok_bnd ?_
  refine ok_bnd ?_
  refine ok_bv fun v132 ev132 => ?_
  have iv132 : v132.toInt = (((((((((h0 0).toInt * (h1 6).toInt) + ((h0 1).toInt * (h1 5).toInt)) + ((h0 2).toInt * (h1 4).toInt)) + ((h0 3).toInt * (h1 3).toInt)) + ((h0 4).toInt * (h1 2).toInt)) + ((h0 5).toInt * (h1 1).toInt)) + ((h0 6).toInt * (h1 0).toInt)) + (v81.toInt * 15632)) + (v80.toInt * 1024) ∧ -6341068275337658368 + 2 ^ 50 ≤ v132.toInt ∧ v132.toInt ≤ 6341068275337658368 - 2 ^ 50 := zb_f ev132 (zb_a (zb_a (zb_a (zb_a (zb_a (zb_a (zb_a (zb_a (P 0 6 (by decide) (by decide)) (P 1 5 (by decide) (by decide))) (P 2 4 (by decide) (by decide))) (P 3 3 (by decide) (by decide))) (P 4 2 (by decide) (by decide))) (P 5 1 (by decide) (by decide))) (P 6 0 (by decide) (by decide))) (zb_mk bv81 (show (15632 : Int64).toInt = 15632 from rfl) (by decide))) (zb_mk bv80 (show (1024 : Int64).toInt = 1024 from rfl) (by decide))) (by decide)
  refine ok_bnd ?_
  refine ok_bnd ?_
  refine ok_bnd ?_
  refine ok_bnd ?_
  refine ok_bnd ?_
  refine ok_bnd ?_
  refine ok_bnd ?_
  refine ok_bnd ?_
  refine ok_bnd ?_
  refine ok_bnd ?_
  refine ok_bv fun v143 ev143 => ?_
  have iv143 : v143.toInt = ((((((((((h0 0).toInt * (h1 7).toInt) + ((h0 1).toInt * (h1 6).toInt)) + ((h0 2).toInt * (h1 5).toInt)) + ((h0 3).toInt * (h1 4).toInt)) + ((h0 4).toInt * (h1 3).toInt)) + ((h0 5).toInt * (h1 2).toInt)) + ((h0 6).toInt * (h1 1).toInt)) + ((h0 7).toInt * (h1 0).toInt)) + (v82.toInt * 15632)) + (v81.toInt * 1024) ∧ -6341068275337658368 + 2 ^ 50 ≤ v143.toInt ∧ v143.toInt ≤ 6341068275337658368 - 2 ^ 50 := zb_f ev143 (zb_a (zb_a (zb_a (zb_a (zb_a (zb_a (zb_a (zb_a (zb_a (P 0 7 (by decide) (by decide)) (P 1 6 (by decide) (by decide))) (P 2 5 (by decide) (by decide))) (P 3 4 (by decide) (by decide))) (P 4 3 (by decide) (by decide))) (P 5 2 (by decide) (by decide))) (P 6 1 (by decide) (by decide))) (P 7 0 (by decide) (by decide))) (zb_mk bv82 (show (15632 : Int64).toInt = 15632 from rfl) (by decide))) (zb_mk bv81 (show (1024 : Int64).toInt = 1024 from rfl) (by decide))) (by decide)
  refine ok_bnd ?_
  refine ok_bnd ?_
  refine ok_bnd ?_
  refine ok_bnd ?_
  refine ok_bnd ?_
  refine ok_bnd ?_
  refine ok_bnd ?_
  refine ok_bnd ?_
  refine ok_bnd ?_
  refine ok_bnd ?_
  refine ok_bnd ?_
  refine ok_bv fun v155 ev155 => ?_
  have iv155 : v155.toInt = (((((((((((h0 0).toInt * (h1 8).toInt) + ((h0 1).toInt * (h1 7).toInt)) + ((h0 2).toInt * (h1 6).toInt)) + ((h0 3).toInt * (h1 5).toInt)) + ((h0 4).toInt * (h1 4).toInt)) + ((h0 5).toInt * (h1 3).toInt)) + ((h0 6).toInt * (h1 2).toInt)) + ((h0 7).toInt * (h1 1).toInt)) + ((h0 8).toInt * (h1 0).toInt)) + (v83.toInt * 15632)) + (v82.toInt * 1024) ∧ -6341068275337658368 + 2 ^ 50 ≤ v155.toInt ∧ v155.toInt ≤ 6341068275337658368 - 2 ^ 50 := zb_f ev155 (zb_a (zb_a (zb_a (zb_a (zb_a (zb_a (zb_a (zb_a (zb_a (zb_a (P 0 8 (by decide) (by decide)) (P 1 7 (by decide) (by decide))) (P 2 6 (by decide) (by decide))) (P 3 5 (by decide) (by decide))) (P 4 4 (by decide) (by decide))) (P 5 3 (by decide) (by decide))) (P 6 2 (by decide) (by decide))) (P 7 1 (by decide) (by decide))) (P 8 0 (by decide) (by decide))) (zb_mk bv83 (show (15632 : Int64).toInt = 15632 from rfl) (by decide))) (zb_mk bv82 (show (1024 : Int64).toInt = 1024 from rfl) (by decide))) (by decide)
  refine ok_bnd ?_
  refine ok_bnd ?_
  refine ok_bnd ?_
  refine ok_bnd ?_
  refine ok_bnd ?_
  refine ok_bnd ?_
  refine ok_bnd ?_
  refine ok_bnd ?_
  refine ok_bnd ?_
  refine ok_bnd ?_
  refine ok_bnd ?_
  refine ok_bnd ?_
  refine ok_bv fun v168 ev168 => ?_
  have iv168 : v168.toInt = ((((((((((((h0 0).toInt * (h1 9).toInt) + ((h0 1).toInt * (h1 8).toInt)) + ((h0 2).toInt * (h1 7).toInt)) + ((h0 3).toInt * (h1 6).toInt)) + ((h0 4).toInt * (h1 5).toInt)) + ((h0 5).toInt * (h1 4).toInt)) + ((h0 6).toInt * (h1 3).toInt)) + ((h0 7).toInt * (h1 2).toInt)) + ((h0 8).toInt * (h1 1).toInt)) + ((h0 9).toInt * (h1 0).toInt)) + (v74.toInt * 15632)) + (v83.toInt * 1024) ∧ -6341068275337658368 + 2 ^ 50 ≤ v168.toInt ∧ v168.toInt ≤ 6341068275337658368 - 2 ^ 50 := zb_f ev168 (zb_a (zb_a (zb_a (zb_a (zb_a (zb_a (zb_a (zb_a (zb_a (zb_a (zb_a (P 0 9 (by decide) (by decide)) (P 1 8 (by decide) (by decide))) (P 2 7 (by decide) (by decide))) (P 3 6 (by decide) (by decide))) (P 4 5 (by decide) (by decide))) (P 5 4 (by decide) (by decide))) (P 6 3 (by decide) (by decide))) (P 7 2 (by decide) (by decide))) (P 8 1 (by decide) (by decide))) (P 9 0 (by decide) (by decide))) (zb_mk bv74 (show (15632 : Int64).toInt = 15632 from rfl) (by decide))) (zb_mk bv83 (show (1024 : Int64).toInt = 1024 from rfl) (by decide))) (by decide)
  refine ok_bnd ?_
  obtain ⟨g, hg⟩ : ∃ g, g = vp_updL (vp_updL (vp_updL (vp_updL (vp_updL (vp_updL (vp_updL (vp_updL (vp_updL (vp_updL w 0 v86) 1 v92) 2 v98) 3 v105) 4 v113) 5 v122) 6 v132) 7 v143) 8 v155) 9 v168 := ⟨_, rfl⟩
  have hX : cong (Tv g 10) (Tv h0 10 * Tv h1 10) := by
    have p1 := mul_1 (h0 0).toInt (h0 1).toInt (h0 2).toInt (h0 3).toInt (h0 4).toInt (h0 5).toInt (h0 6).toInt (h0 7).toInt (h0 8).toInt (h0 9).toInt (h1 0).toInt (h1 1).toInt (h1 2).toInt (h1 3).toInt (h1 4).toInt (h1 5).toInt (h1 6).toInt (h1 7).toInt (h1 8).toInt (h1 9).toInt
    obtain ⟨k, hk⟩ := mul_2 ((h0 0).toInt * (h1 0).toInt) ((h0 0).toInt * (h1 1).toInt + (h0 1).toInt * (h1 0).toInt) ((h0 0).toInt * (h1 2).toInt + (h0 1).toInt * (h1 1).toInt + (h0 2).toInt * (h1 0).toInt) ((h0 0).toInt * (h1 3).toInt + (h0 1).toInt * (h1 2).toInt + (h0 2).toInt * (h1 1).toInt + (h0 3).toInt * (h1 0).toInt) ((h0 0).toInt * (h1 4).toInt + (h0 1).toInt * (h1 3).toInt + (h0 2).toInt * (h1 2).toInt + (h0 3).toInt * (h1 1).toInt + (h0 4).toInt * (h1 0).toInt) ((h0 0).toInt * (h1 5).toInt + (h0 1).toInt * (h1 4).toInt + (h0 2).toInt * (h1 3).toInt + (h0 3).toInt * (h1 2).toInt + (h0 4).toInt * (h1 1).toInt + (h0 5).toInt * (h1 0).toInt) ((h0 0).toInt * (h1 6).toInt + (h0 1).toInt * (h1 5).toInt + (h0 2).toInt * (h1 4).toInt + (h0 3).toInt * (h1 3).toInt + (h0 4).toInt * (h1 2).toInt + (h0 5).toInt * (h1 1).toInt + (h0 6).toInt * (h1 0).toInt) ((h0 0).toInt * (h1 7).toInt + (h0 1).toInt * (h1 6).toInt + (h0 2).toInt * (h1 5).toInt + (h0 3).toInt * (h1 4).toInt + (h0 4).toInt * (h1 3).toInt + (h0 5).toInt * (h1 2).toInt + (h0 6).toInt * (h1 1).toInt + (h0 7).toInt * (h1 0).toInt) ((h0 0).toInt * (h1 8).toInt + (h0 1).toInt * (h1 7).toInt + (h0 2).toInt * (h1 6).toInt + (h0 3).toInt * (h1 5).toInt + (h0 4).toInt * (h1 4).toInt + (h0 5).toInt * (h1 3).toInt + (h0 6).toInt * (h1 2).toInt + (h0 7).toInt * (h1 1).toInt + (h0 8).toInt * (h1 0).toInt) ((h0 0).toInt * (h1 9).toInt + (h0 1).toInt * (h1 8).toInt + (h0 2).toInt * (h1 7).toInt + (h0 3).toInt * (h1 6).toInt + (h0 4).toInt * (h1 5).toInt + (h0 5).toInt * (h1 4).toInt + (h0 6).toInt * (h1 3).toInt + (h0 7).toInt * (h1 2).toInt + (h0 8).toInt * (h1 1).toInt + (h0 9).toInt * (h1 0).toInt) ((h0 1).toInt * (h1 9).toInt + (h0 2).toInt * (h1 8).toInt + (h0 3).toInt * (h1 7).toInt + (h0 4).toInt * (h1 6).toInt + (h0 5).toInt * (h1 5).toInt + (h0 6).toInt * (h1 4).toInt + (h0 7).toInt * (h1 3).toInt + (h0 8).toInt * (h1 2).toInt + (h0 9).toInt * (h1 1).toInt) ((h0 2).toInt * (h1 9).toInt + (h0 3).toInt * (h1 8).toInt + (h0 4).toInt * (h1 7).toInt + (h0 5).toInt * (h1 6).toInt + (h0 6).toInt * (h1 5).toInt + (h0 7).toInt * (h1 4).toInt + (h0 8).toInt * (h1 3).toInt + (h0 9).toInt * (h1 2).toInt) ((h0 3).toInt * (h1 9).toInt + (h0 4).toInt * (h1 8).toInt + (h0 5).toInt * (h1 7).toInt + (h0 6).toInt * (h1 6).toInt + (h0 7).toInt * (h1 5).toInt + (h0 8).toInt * (h1 4).toInt + (h0 9).toInt * (h1 3).toInt) ((h0 4).toInt * (h1 9).toInt + (h0 5).toInt * (h1 8).toInt + (h0 6).toInt * (h1 7).toInt + (h0 7).toInt * (h1 6).toInt + (h0 8).toInt * (h1 5).toInt + (h0 9).toInt * (h1 4).toInt) ((h0 5).toInt * (h1 9).toInt + (h0 6).toInt * (h1 8).toInt + (h0 7).toInt * (h1 7).toInt + (h0 8).toInt * (h1 6).toInt + (h0 9).toInt * (h1 5).toInt) ((h0 6).toInt * (h1 9).toInt + (h0 7).toInt * (h1 8).toInt + (h0 8).toInt * (h1 7).toInt + (h0 9).toInt * (h1 6).toInt) ((h0 7).toInt * (h1 9).toInt + (h0 8).toInt * (h1 8).toInt + (h0 9).toInt * (h1 7).toInt) ((h0 8).toInt * (h1 9).toInt + (h0 9).toInt * (h1 8).toInt) ((h0 9).toInt * (h1 9).toInt) v29.toInt v38.toInt v46.toInt v53.toInt v59.toInt v64.toInt v68.toInt v71.toInt v73.toInt iv29.1 iv38.1 iv46.1 iv53.1 iv59.1 iv64.1 iv68.1 iv71.1 iv73.1
    refine ⟨k, ?_⟩
    rw [T10 h0, T10 h1, p1, ← hk, T10]
    have g0 : g 0 = v86 ∧ g 1 = v92 ∧ g 2 = v98 ∧ g 3 = v105 ∧ g 4 = v113 ∧ g 5 = v122 ∧ g 6 = v132 ∧ g 7 = v143 ∧ g 8 = v155 ∧ g 9 = v168 := by
      rw [hg]
      exact ⟨rfl, rfl, rfl, rfl, rfl, rfl, rfl, rfl, rfl, rfl⟩
    obtain ⟨g0, g1, g2, g3, g4, g5, g6, g7, g8, g9⟩ := g0
    rw [g0, g1, g2, g3, g4, g5, g6, g7, g8, g9, iv86.1, iv92.1, iv98.1, iv105.1, iv113.1, iv122.1, iv132.1, iv143.1, iv155.1, iv168.1, iv74, iv75, iv76, iv77, iv78, iv79, iv80, iv81, iv82, iv83]
  obtain ⟨k, hk⟩ := hX
  have hgw : ∀ j, j < 10 → -6341068275337658368 + 2 ^ 50 ≤ (g j).toInt ∧ (g j).toInt ≤ 6341068275337658368 - 2 ^ 50 := by
    intro j hj
    have : j = 0 ∨ j = 1 ∨ j = 2 ∨ j = 3 ∨ j = 4 ∨ j = 5 ∨ j = 6 ∨ j = 7 ∨ j = 8 ∨ j = 9 := by omega
    rw [hg]
    rcases this with rfl | rfl | rfl | rfl | rfl | rfl | rfl | rfl | rfl | rfl
    · exact iv86.2
    · exact iv92.2
    · exact iv98.2
    · exact iv105.2
    · exact iv113.2
    · exact iv122.2
    · exact iv132.2
    · exact iv143.2
    · exact iv155.2
    · exact iv168.2
  have := l_Cu_mul fu h0 h1 g (Tv g 10) hgw 9 0 g fu (by omega) (by omega) ⟨rfl, fun j hj => absurd hj (Nat.not_lt_zero _), (cR_0 (hgw 0 (by decide))), fun j _ => rfl⟩
  rw [hg] at this
  refine ok_mono this (fun f hf => ⟨?_, hf.2⟩)
  rw [← hg] at hf
  exact cong_t hf.1 ⟨k, hk⟩
set_option maxHeartbeats 400000 in
theorem l_Cu_mul_e10 (fu : Nat) (h0 : Nat → Int64) (p q : Nat → Int64) : ∀ n x f, x_Cu_multiply_e10_1007 fu h0 n x f = x_Cu_multiply_1007 fu p q n x f
  | 0, _, _ => rfl
  | n + 1, x, f => by
    show xb_Cu_multiply_e10_1007 fu h0 (x_Cu_multiply_e10_1007 fu h0 n) x f = xb_Cu_multiply_1007 fu p q (x_Cu_multiply_1007 fu p q n) x f
    have e : x_Cu_multiply_e10_1007 fu h0 n = x_Cu_multiply_1007 fu p q n := funext fun x => funext fun f => l_Cu_mul_e10 fu h0 p q n x f
    rw [e]
    rfl
set_option maxHeartbeats 400000 in
theorem e_Cu_mul_e10 (fu : Nat) (h0 : Nat → Int64) (u : Nat → Int64) : x_Cu_multiply_e10 fu h0 u = x_Cu_multiply fu h0 h0 u := by
  unfold x_Cu_multiply_e10 x_Cu_multiply
  rw [show x_Cu_multiply_e10_1007 fu h0 = x_Cu_multiply_1007 fu h0 h0 from funext fun n => funext fun x => funext fun f => l_Cu_mul_e10 fu h0 h0 h0 n x f]
set_option maxHeartbeats 400000 in
theorem v_Cu_multiply_e10 (fu : Nat) (hfu : 10 ≤ fu) (h0 : Nat → Int64) (u : Nat → Int64) (hb : ∀ i j, i < 10 → j < 10 → -2 ^ 59 ≤ (h0 i).toInt * (h0 j).toInt ∧ (h0 i).toInt * (h0 j).toInt ≤ 2 ^ 59) : ok (x_Cu_multiply_e10 fu h0 u) (fun f => cong (Tv f 10) (Tv h0 10 * Tv h0 10) ∧ sz f 1) := by
  rw [e_Cu_mul_e10]
  exact v_Cu_multiply fu hfu h0 h0 u hb
set_option maxHeartbeats 400000 in
theorem l_Cu_mul_e20 (fu : Nat) (h1 : Nat → Int64) (p q : Nat → Int64) : ∀ n x f, x_Cu_multiply_e20_1007 fu h1 n x f = x_Cu_multiply_1007 fu p q n x f
  | 0, _, _ => rfl
  | n + 1, x, f => by
    show xb_Cu_multiply_e20_1007 fu h1 (x_Cu_multiply_e20_1007 fu h1 n) x f = xb_Cu_multiply_1007 fu p q (x_Cu_multiply_1007 fu p q n) x f
    have e : x_Cu_multiply_e20_1007 fu h1 n = x_Cu_multiply_1007 fu p q n := funext fun x => funext fun f => l_Cu_mul_e20 fu h1 p q n x f
    rw [e]
    rfl
set_option maxHeartbeats 400000 in
theorem e_Cu_mul_e20 (fu : Nat) (h1 : Nat → Int64) (u : Nat → Int64) : x_Cu_multiply_e20 fu h1 u = x_Cu_multiply fu u h1 u := by
  unfold x_Cu_multiply_e20 x_Cu_multiply
  rw [show x_Cu_multiply_e20_1007 fu h1 = x_Cu_multiply_1007 fu u h1 from funext fun n => funext fun x => funext fun f => l_Cu_mul_e20 fu h1 u h1 n x f]
set_option maxHeartbeats 400000 in
theorem v_Cu_multiply_e20 (fu : Nat) (hfu : 10 ≤ fu) (h1 : Nat → Int64) (u : Nat → Int64) (hb : ∀ i j, i < 10 → j < 10 → -2 ^ 59 ≤ (u i).toInt * (h1 j).toInt ∧ (u i).toInt * (h1 j).toInt ≤ 2 ^ 59) : ok (x_Cu_multiply_e20 fu h1 u) (fun f => cong (Tv f 10) (Tv u 10 * Tv h1 10) ∧ sz f 1) := by
  rw [e_Cu_mul_e20]
  exact v_Cu_multiply fu hfu u h1 u hb
set_option maxHeartbeats 400000 in
theorem l_Cu_mul_e21 (fu : Nat) (h0 : Nat → Int64) (p q : Nat → Int64) : ∀ n x f, x_Cu_multiply_e21_1007 fu h0 n x f = x_Cu_multiply_1007 fu p q n x f
  | 0, _, _ => rfl
  | n + 1, x, f => by
    show xb_Cu_multiply_e21_1007 fu h0 (x_Cu_multiply_e21_1007 fu h0 n) x f = xb_Cu_multiply_1007 fu p q (x_Cu_multiply_1007 fu p q n) x f
    have e : x_Cu_multiply_e21_1007 fu h0 n = x_Cu_multiply_1007 fu p q n := funext fun x => funext fun f => l_Cu_mul_e21 fu h0 p q n x f
    rw [e]
    rfl
set_option maxHeartbeats 400000 in
theorem e_Cu_mul_e21 (fu : Nat) (h0 : Nat → Int64) (u : Nat → Int64) : x_Cu_multiply_e21 fu h0 u = x_Cu_multiply fu h0 u u := by
  unfold x_Cu_multiply_e21 x_Cu_multiply
  rw [show x_Cu_multiply_e21_1007 fu h0 = x_Cu_multiply_1007 fu h0 u from funext fun n => funext fun x => funext fun f => l_Cu_mul_e21 fu h0 h0 u n x f]
set_option maxHeartbeats 400000 in
theorem v_Cu_multiply_e21 (fu : Nat) (hfu : 10 ≤ fu) (h0 : Nat → Int64) (u : Nat → Int64) (hb : ∀ i j, i < 10 → j < 10 → -2 ^ 59 ≤ (h0 i).toInt * (u j).toInt ∧ (h0 i).toInt * (u j).toInt ≤ 2 ^ 59) : ok (x_Cu_multiply_e21 fu h0 u) (fun f => cong (Tv f 10) (Tv h0 10 * Tv u 10) ∧ sz f 1) := by
  rw [e_Cu_mul_e21]
  exact v_Cu_multiply fu hfu h0 u u hb
set_option maxHeartbeats 400000 in
theorem l_Cu_mul_e10e20 (fu : Nat)  (p q : Nat → Int64) : ∀ n x f, x_Cu_multiply_e10e20_1007 fu  n x f = x_Cu_multiply_1007 fu p q n x f
  | 0, _, _ => rfl
  | n + 1, x, f => by
    show xb_Cu_multiply_e10e20_1007 fu  (x_Cu_multiply_e10e20_1007 fu  n) x f = xb_Cu_multiply_1007 fu p q (x_Cu_multiply_1007 fu p q n) x f
    have e : x_Cu_multiply_e10e20_1007 fu  n = x_Cu_multiply_1007 fu p q n := funext fun x => funext fun f => l_Cu_mul_e10e20 fu  p q n x f
    rw [e]
    rfl
set_option maxHeartbeats 400000 in
theorem e_Cu_mul_e10e20 (fu : Nat)  (u : Nat → Int64) : x_Cu_multiply_e10e20 fu  u = x_Cu_multiply fu u u u := by
  unfold x_Cu_multiply_e10e20 x_Cu_multiply
  rw [show x_Cu_multiply_e10e20_1007 fu  = x_Cu_multiply_1007 fu u u from funext fun n => funext fun x => funext fun f => l_Cu_mul_e10e20 fu  u u n x f]
set_option maxHeartbeats 400000 in
theorem v_Cu_multiply_e10e20 (fu : Nat) (hfu : 10 ≤ fu)  (u : Nat → Int64) (hb : ∀ i j, i < 10 → j < 10 → -2 ^ 59 ≤ (u i).toInt * (u j).toInt ∧ (u i).toInt * (u j).toInt ≤ 2 ^ 59) : ok (x_Cu_multiply_e10e20 fu  u) (fun f => cong (Tv f 10) (Tv u 10 * Tv u 10) ∧ sz f 1) := by
  rw [e_Cu_mul_e10e20]
  exact v_Cu_multiply fu hfu u u u hb
set_option maxHeartbeats 400000 in
theorem sz_m {h g : Nat → Int64} {s t : Int} (hh : sz h s) (hg : sz g t) (hs : 0 ≤ s) (ht : 0 ≤ t) (hst : s * t ≤ 120) : ∀ i j, i < 10 → j < 10 → -2 ^ 59 ≤ (h i).toInt * (g j).toInt ∧ (h i).toInt * (g j).toInt ≤ 2 ^ 59 := by
  intro i j hi hj
  have h1 := hh i hi
  have h2 := hg j hj
  generalize (h i).toInt = a at *
  generalize (g j).toInt = b at *
  have e1 : (a * b).natAbs ≤ ((s * 69206016) * (t * 69206016)).natAbs := by
    rw [Int.natAbs_mul, Int.natAbs_mul]
    exact Nat.mul_le_mul (by omega) (by omega)
  have e2 : (s * 69206016) * (t * 69206016) = s * t * 4789472650592256 + s * t * (69206016 * 69206016 - 4789472650592256) := by grind
  rw [e2] at e1
  generalize a * b = m at *
  have e3 : 0 ≤ s * t := Int.mul_nonneg hs ht
  generalize s * t = k at *
  omega
set_option maxHeartbeats 400000 in
theorem sz_w {h : Nat → Int64} {s t : Int} (hh : sz h s) (hst : s ≤ t) : sz h t := by
  intro i hi
  have := hh i hi
  generalize (h i).toInt = a at *
  omega
