-- small steps of the curve
set_option maxHeartbeats 400000 in
theorem Tv_l {f g h k : Nat → Int64} {a b c : Int} : ∀ {n}, (∀ j, j < n → (f j).toInt = a * (g j).toInt + b * (h j).toInt + c * (k j).toInt) → Tv f n = a * Tv g n + b * Tv h n + c * Tv k n
  | 0, _ => by
    show (0 : Int) = a * 0 + b * 0 + c * 0
    omega
  | n + 1, e => by
    show Tv f n + (f n).toInt * 2 ^ (26 * n) = a * (Tv g n + (g n).toInt * 2 ^ (26 * n)) + b * (Tv h n + (h n).toInt * 2 ^ (26 * n)) + c * (Tv k n + (k n).toInt * 2 ^ (26 * n))
    rw [Tv_l (n := n) (fun j hj => e j (by omega)), e n (by omega)]
    generalize (2 : Int) ^ (26 * n) = X
    generalize (g n).toInt = x
    generalize (h n).toInt = y
    generalize (k n).toInt = z
    generalize Tv g n = x'
    generalize Tv h n = y'
    generalize Tv k n = z'
    grind
set_option maxHeartbeats 400000 in
theorem l_Cu_neg (fu : Nat) (w : Nat → Int64) (hw : ∀ j, j < 10 → -2 ^ 62 ≤ (w j).toInt ∧ (w j).toInt ≤ 2 ^ 62) : ∀ r i u n, i + r = 10 → r < n → (∀ j, j < i → (u j).toInt = -(w j).toInt) → (∀ j, i ≤ j → u j = w j) → ok (x_Cu_negate_2 fu n (nI i) u) (fun f => ∀ j, j < 10 → (f j).toInt = -(w j).toInt) := by
  intro r
  induction r with
  | zero =>
    intro i u n hi hn h _
    obtain ⟨n, rfl⟩ : ∃ m, n = m + 1 := ⟨n - 1, by omega⟩
    have : i = 10 := by omega
    subst this
    show ok (xb_Cu_negate_2 fu (x_Cu_negate_2 fu n) (nI 10) u) _
    unfold xb_Cu_negate_2
    exact ok_t (show (10 : Int32) ≤ nI 10 from by decide) (ok_some h)
  | succ r ih =>
    intro i u n hi hn h h'
    obtain ⟨n, rfl⟩ : ∃ m, n = m + 1 := ⟨n - 1, by omega⟩
    show ok (xb_Cu_negate_2 fu (x_Cu_negate_2 fu n) (nI i) u) _
    unfold xb_Cu_negate_2
    refine ok_f (show ¬ (10 : Int32) ≤ nI i from nI_ge (b := 10) (by omega) (by decide)) (ok_gd (inb_nI (by omega) (by decide)) (ok_bnd (ok_bnd (ok_gd (inb_nI (by omega) (by decide)) (ok_bnd (ok_bnd ?_))))))
    rw [nI_clamp (n := i) (by omega), nI_1]
    refine ih (i + 1) _ n (by omega) (by omega) (fun j j1 => ?_) (fun j j1 => ?_)
    · by_cases hj : j = i
      · rw [hj, pk_uLs, h' i (Nat.le_refl _)]
        have := hw i (by omega)
        refine zz_i (zz_n (zz_s _)) ?_ ?_
        · generalize (w i).toInt = a at *; omega
        · generalize (w i).toInt = a at *; omega
      · rw [pk_uLn hj, h j (by omega)]
    · rw [pk_uLn (by omega), h' j (by omega)]
set_option maxHeartbeats 400000 in
theorem v_Cu_negate (fu : Nat) (hfu : 11 ≤ fu) (w : Nat → Int64) {s : Int} (hw : sz w s) (hs : s ≤ 100) : ok (x_Cu_negate fu w) (fun f => Tv f 10 = -Tv w 10 ∧ sz f s) := by
  unfold x_Cu_negate
  refine ok_mono (l_Cu_neg fu w ?_ 10 0 w fu (by omega) (by omega) (fun j hj => absurd hj (Nat.not_lt_zero _)) (fun j _ => rfl)) ?_
  · intro j hj
    have := hw j hj
    generalize (w j).toInt = a at *
    omega
  · intro f hf
    refine ⟨?_, ?_⟩
    · have := Tv_l (f := f) (g := w) (h := w) (k := w) (a := -1) (b := 0) (c := 0) (n := 10) (fun j hj => by rw [hf j hj]; generalize (w j).toInt = a at *; omega)
      rw [this]
      generalize Tv w 10 = t
      omega
    · intro j hj
      have := hw j hj
      rw [hf j hj]
      generalize (w j).toInt = a at *
      omega
set_option maxHeartbeats 400000 in
theorem l_Cu_split (fu : Nat) (h0 : Nat → Int64) : ∀ r i u n, i + r = 5 → r < n → (∀ j, j < i → (u (2 * j)).toInt = (h0 j).toInt % 2 ^ 26 ∧ (u (2 * j + 1)).toInt = (h0 j).toInt / 2 ^ 26) → ok (x_Cu_split_2 fu h0 n (nI i) u) (fun f => ∀ j, j < 5 → (f (2 * j)).toInt = (h0 j).toInt % 2 ^ 26 ∧ (f (2 * j + 1)).toInt = (h0 j).toInt / 2 ^ 26) := by
  intro r
  induction r with
  | zero =>
    intro i u n hi hn h
    obtain ⟨n, rfl⟩ : ∃ m, n = m + 1 := ⟨n - 1, by omega⟩
    have : i = 5 := by omega
    subst this
    show ok (xb_Cu_split_2 fu h0 (x_Cu_split_2 fu h0 n) (nI 5) u) _
    unfold xb_Cu_split_2
    exact ok_t (show (5 : Int32) ≤ nI 5 from by decide) (ok_some h)
  | succ r ih =>
    intro i u n hi hn h
    obtain ⟨n, rfl⟩ : ∃ m, n = m + 1 := ⟨n - 1, by omega⟩
    show ok (xb_Cu_split_2 fu h0 (x_Cu_split_2 fu h0 n) (nI i) u) _
    unfold xb_Cu_split_2
    have e2 : (2 : Int32) * nI i = nI (2 * i) := pk_mul 2 i
    refine ok_f (show ¬ (5 : Int32) ≤ nI i from nI_ge (b := 5) (by omega) (by decide)) ?_
    rw [e2, nI_1]
    refine ok_bnd (ok_gd (inb_nI (by omega) (by decide)) (ok_bnd (ok_bnd (ok_gd (inb_nI (by omega) (by decide)) (ok_bnd (ok_bnd ?_))))))
    rw [nI_1]
    refine ok_bnd (ok_gd (inb_nI (by omega) (by decide)) (ok_bnd (ok_bnd (ok_gd (inb_nI (by omega) (by decide)) (ok_bnd (ok_bnd ?_))))))
    rw [nI_clamp (n := i) (by omega), nI_clamp (n := 2 * i) (by omega), nI_clamp (n := 2 * i + 1) (by omega)]
    refine ih (i + 1) _ n (by omega) (by omega) (fun j j1 => ?_)
    by_cases hj : j = i
    · rw [hj, pk_uLn (by omega), pk_uLs, pk_uLs]
      exact ⟨l_26 _, l_s26 _⟩
    · rw [pk_uLn (by omega), pk_uLn (by omega), pk_uLn (by omega), pk_uLn (by omega)]
      exact h j (by omega)
set_option maxHeartbeats 400000 in
theorem v_Cu_split (fu : Nat) (hfu : 6 ≤ fu) (h0 : Nat → Int64) (hm : nm h0 5) (w : Nat → Int64) : ok (x_Cu_split fu h0 w) (fun f => Tv f 10 = Wv h0 5 ∧ nn f 10) := by
  unfold x_Cu_split
  refine ok_mono (l_Cu_split fu h0 5 0 w fu (by omega) (by omega) (fun j hj => absurd hj (Nat.not_lt_zero _))) ?_
  intro f hf
  have a0 := hf 0 (by decide)
  have a1 := hf 1 (by decide)
  have a2 := hf 2 (by decide)
  have a3 := hf 3 (by decide)
  have a4 := hf 4 (by decide)
  simp only [Nat.reduceMul, Nat.reduceAdd] at a0 a1 a2 a3 a4
  refine ⟨?_, ?_⟩
  · rw [T10, a0.1, a0.2, a1.1, a1.2, a2.1, a2.2, a3.1, a3.2, a4.1, a4.2]
    show _ = 0 + (h0 0).toInt * 2 ^ 0 + (h0 1).toInt * 2 ^ 52 + (h0 2).toInt * 2 ^ 104 + (h0 3).toInt * 2 ^ 156 + (h0 4).toInt * 2 ^ 208
    clear a0 a1 a2 a3 a4 hf hm
    generalize (h0 0).toInt = b0; generalize (h0 1).toInt = b1; generalize (h0 2).toInt = b2; generalize (h0 3).toInt = b3; generalize (h0 4).toInt = b4
    rw [Int.emod_def b0, Int.emod_def b1, Int.emod_def b2, Int.emod_def b3, Int.emod_def b4]
    generalize b0 / 2 ^ 26 = c0; generalize b1 / 2 ^ 26 = c1; generalize b2 / 2 ^ 26 = c2; generalize b3 / 2 ^ 26 = c3; generalize b4 / 2 ^ 26 = c4
    grind
  · intro j hj
    have h5 := hm (j / 2) (by omega)
    have h6 := hf (j / 2) (by omega)
    have : j = 2 * (j / 2) ∨ j = 2 * (j / 2) + 1 := by omega
    generalize j / 2 = i at *
    rcases this with rfl | rfl
    · rw [h6.1]
      generalize (h0 i).toInt = a at *
      omega
    · rw [h6.2]
      generalize (h0 i).toInt = a at *
      omega
set_option maxHeartbeats 400000 in
theorem l_or0 (x y : Int64) : x ||| y = 0 ↔ x = 0 ∧ y = 0 := by
  constructor
  · intro h
    have e : (x ||| y).toBitVec = 0#64 := by rw [h]; rfl
    have e' : x.toBitVec ||| y.toBitVec = 0#64 := e
    have := BitVec.or_eq_zero_iff.mp e'
    exact ⟨Int64.toBitVec_inj.mp this.1, Int64.toBitVec_inj.mp this.2⟩
  · intro h
    rw [h.1, h.2]
    rfl
set_option maxHeartbeats 400000 in
theorem l_Cu_hnb (fu : Nat) (h : Nat → Int64) : ∀ r i x n, i + r = 10 → r < n → (x = 0 ↔ ∀ j, j < i → h j = 0) → ok (x_Cu_hasNoBit_4 fu h n x (nI i)) (fun v => (v = 1 ∧ ∀ j, j < 10 → h j = 0) ∨ (v = 0 ∧ ¬ ∀ j, j < 10 → h j = 0)) := by
  intro r
  induction r with
  | zero =>
    intro i x n hi hn hx
    obtain ⟨n, rfl⟩ : ∃ m, n = m + 1 := ⟨n - 1, by omega⟩
    have : i = 10 := by omega
    subst this
    show ok (xb_Cu_hasNoBit_4 fu h (x_Cu_hasNoBit_4 fu h n) x (nI 10)) _
    unfold xb_Cu_hasNoBit_4
    have hz : lg_cmp x 0 = 0 ↔ x = 0 := (lg_0 x).1.trans ⟨fun q => Int64.toInt_inj.mp q, fun q => by rw [q]; rfl⟩
    refine ok_t (show (10 : Int32) ≤ nI 10 from by decide) (ok_ite (fun c => ok_some (Or.inl ⟨rfl, hx.mp (hz.mp c)⟩)) (fun c => ok_some (Or.inr ⟨rfl, fun q => c (hz.mpr (hx.mpr q))⟩)))
  | succ r ih =>
    intro i x n hi hn hx
    obtain ⟨n, rfl⟩ : ∃ m, n = m + 1 := ⟨n - 1, by omega⟩
    show ok (xb_Cu_hasNoBit_4 fu h (x_Cu_hasNoBit_4 fu h n) x (nI i)) _
    unfold xb_Cu_hasNoBit_4
    refine ok_f (show ¬ (10 : Int32) ≤ nI i from nI_ge (b := 10) (by omega) (by decide)) (ok_gd (inb_nI (by omega) (by decide)) (ok_bnd (ok_bnd (ok_bnd ?_))))
    rw [nI_clamp (n := i) (by omega), nI_1]
    refine ih (i + 1) _ n (by omega) (by omega) ((l_or0 _ _).trans ⟨fun q j hj => ?_, fun q => ⟨hx.mpr fun j hj => q j (by omega), q i (by omega)⟩⟩)
    by_cases hji : j = i
    · rw [hji]; exact q.2
    · exact hx.mp q.1 j (by omega)
set_option maxHeartbeats 400000 in
theorem nn10 {f : Nat → Int64} (h : stl f) : nn f 10 := by
  intro j hj
  by_cases h9 : j = 9
  · rw [h9]
    have := h.2.1
    generalize (f 9).toInt = a at *
    omega
  · exact h.1 j (by omega)
set_option maxHeartbeats 400000 in
theorem Tv_0 {f : Nat → Int64} : ∀ {n}, nn f n → (Tv f n = 0 ↔ ∀ j, j < n → f j = 0)
  | 0, _ => ⟨fun _ j hj => absurd hj (Nat.not_lt_zero _), fun _ => rfl⟩
  | n + 1, h => by
    have ih := Tv_0 (f := f) (n := n) (fun j hj => h j (by omega))
    have hb := Tv_nn (h := f) (n := n) (fun j hj => h j (by omega))
    have q := h n (by omega)
    have hp : (0 : Int) < 2 ^ (26 * n) := Int.pow_pos (by decide)
    have e : f n = 0 ↔ (f n).toInt = 0 := ⟨fun q => by rw [q]; rfl, fun q => Int64.toInt_inj.mp q⟩
    have h1 : 0 ≤ (f n).toInt * 2 ^ (26 * n) := Int.mul_nonneg q.1 (Int.le_of_lt hp)
    have h2 : (f n).toInt * 2 ^ (26 * n) = 0 → (f n).toInt = 0 := fun z => by
      rcases Int.mul_eq_zero.mp z with z | z
      · exact z
      · omega
    show Tv f n + (f n).toInt * 2 ^ (26 * n) = 0 ↔ _
    constructor
    · intro z j hj
      have z1 : Tv f n = 0 := by
        generalize Tv f n = a at *
        generalize (f n).toInt * 2 ^ (26 * n) = b at *
        omega
      by_cases hjn : j = n
      · rw [hjn]
        apply e.mpr
        apply h2
        generalize Tv f n = a at *
        generalize (f n).toInt * 2 ^ (26 * n) = b at *
        omega
      · exact ih.mp z1 j (by omega)
    · intro z
      rw [ih.mpr (fun j hj => z j (by omega)), e.mp (z n (by omega)), Int.zero_mul]
      rfl
set_option maxHeartbeats 400000 in
theorem v_Cu_hasNoBit (fu : Nat) (hfu : 11 ≤ fu) (h : Nat → Int64) (hs : stl h) : ok (x_Cu_hasNoBit fu h) (fun v => (v = 1 ∧ Tv h 10 = 0) ∨ (v = 0 ∧ Tv h 10 ≠ 0)) := by
  unfold x_Cu_hasNoBit
  refine ok_mono (l_Cu_hnb fu h 10 0 0 fu (by omega) (by omega) ⟨fun _ j hj => absurd hj (Nat.not_lt_zero _), fun _ => rfl⟩) ?_
  intro v hv
  have := Tv_0 (nn10 hs)
  rcases hv with ⟨h1, h2⟩ | ⟨h1, h2⟩
  · exact Or.inl ⟨h1, this.mpr h2⟩
  · exact Or.inr ⟨h1, fun q => h2 (this.mp q)⟩
