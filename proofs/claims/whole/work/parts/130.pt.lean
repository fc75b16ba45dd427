-- plain points
set_option maxHeartbeats 400000 in
theorem l_bPl (fu : Nat) (u0 u1 : Int32) : ∀ r i u n, i + r = 10 → r < n → (∀ j, j < i → u j = if j = 0 then 1 else 0) → ok (x_Po_becomePlain_2 fu n (nI i) u0 u1 u) (fun t => t.1 = 0 ∧ t.2.1 = 1 ∧ ∀ j, j < 10 → t.2.2 j = if j = 0 then 1 else 0) := by
  intro r
  induction r with
  | zero =>
    intro i u n hi hn h
    obtain ⟨n, rfl⟩ : ∃ m, n = m + 1 := ⟨n - 1, by omega⟩
    have : i = 10 := by omega
    subst this
    show ok (xb_Po_becomePlain_2 fu (x_Po_becomePlain_2 fu n) (nI 10) u0 u1 u) _
    unfold xb_Po_becomePlain_2
    exact ok_t (show (10 : Int32) ≤ nI 10 from by decide) (ok_some ⟨rfl, rfl, h⟩)
  | succ r ih =>
    intro i u n hi hn h
    obtain ⟨n, rfl⟩ : ∃ m, n = m + 1 := ⟨n - 1, by omega⟩
    show ok (xb_Po_becomePlain_2 fu (x_Po_becomePlain_2 fu n) (nI i) u0 u1 u) _
    unfold xb_Po_becomePlain_2 xb_Po_becomePlain_22
    refine ok_f (show ¬ (10 : Int32) ≤ nI i from nI_ge (b := 10) (by omega) (by decide)) ?_
    have hin : inb (nI i) 10 = true := inb_nI (by omega) (by decide)
    refine ok_ite (fun g => ok_gd hin (ok_bnd (ok_bnd ?_))) (fun g => ok_gd hin (ok_bnd (ok_bnd ?_)))
    · have i0 : i = 0 := (nI_eq (a := i) (b := 0) (by omega) (by decide)).mp g
      rw [nI_clamp (n := i) (by omega), nI_1]
      refine ih (i + 1) _ n (by omega) (by omega) (fun j hj => ?_)
      have : j = i := by omega
      rw [this, pk_uLs, if_pos i0]
    · have i0 : i ≠ 0 := fun q => g (by rw [q]; rfl)
      rw [nI_clamp (n := i) (by omega), nI_1]
      refine ih (i + 1) _ n (by omega) (by omega) (fun j hj => ?_)
      by_cases hji : j = i
      · rw [hji, pk_uLs, if_neg i0]
      · rw [pk_uLn hji, h j (by omega)]
set_option maxHeartbeats 400000 in
theorem Tv_one {f : Nat → Int64} (h : ∀ j, j < 10 → f j = if j = 0 then 1 else 0) : Tv f 10 = 1 ∧ sz f 2 := by
  refine ⟨?_, fun j hj => ?_⟩
  · rw [T10, h 0 (by decide), h 1 (by decide), h 2 (by decide), h 3 (by decide), h 4 (by decide), h 5 (by decide), h 6 (by decide), h 7 (by decide), h 8 (by decide), h 9 (by decide)]
    decide
  · rw [h j hj]
    by_cases g : j = 0
    · rw [if_pos g]; decide
    · rw [if_neg g]; decide
set_option maxHeartbeats 400000 in
theorem v_Po_becomePlain (fu : Nat) (hfu : 11 ≤ fu) (u0 u1 : Int32) (u2 : Nat → Int64) : ok (x_Po_becomePlain fu u0 u1 u2) (fun t => t.1 = 0 ∧ t.2.1 = 1 ∧ Tv t.2.2 10 = 1 ∧ sz t.2.2 2) := by
  unfold x_Po_becomePlain
  refine ok_mono (l_bPl fu u0 u1 10 0 u2 fu (by omega) (by omega) (fun j hj => absurd hj (Nat.not_lt_zero _))) ?_
  rintro t ⟨h1, h2, h3⟩
  exact ⟨h1, h2, (Tv_one h3).1, (Tv_one h3).2⟩
/-- the table's odd multiples -/
def tbx (i j : Nat) : Int64 := (tb_0.getD (20 * i + j) 0).toInt64
def tby (i j : Nat) : Int64 := (tb_0.getD (20 * i + 10 + j) 0).toInt64
set_option maxHeartbeats 400000 in
theorem l_bBa (fu : Nat) (hfu : 11 ≤ fu) {o : Nat} (ho : o < 8) (u0 u1 : Int32) (z : Nat → Int64) : ∀ r i x y n, i + r = 10 → r < n → (∀ j, j < i → x j = tbx o j ∧ y j = tby o j) → ok (x_Po_becomeBase_2 fu n (nI o) (nI i) u0 u1 x y z) (fun t => t.1 = 0 ∧ t.2.1 = 1 ∧ (∀ j, j < 10 → t.2.2.1 j = tbx o j ∧ t.2.2.2.1 j = tby o j) ∧ Tv t.2.2.2.2 10 = 1 ∧ sz t.2.2.2.2 2) := by
  intro r
  induction r with
  | zero =>
    intro i x y n hi hn h
    obtain ⟨n, rfl⟩ : ∃ m, n = m + 1 := ⟨n - 1, by omega⟩
    have : i = 10 := by omega
    subst this
    show ok (xb_Po_becomeBase_2 fu (x_Po_becomeBase_2 fu n) (nI o) (nI 10) u0 u1 x y z) _
    unfold xb_Po_becomeBase_2
    refine ok_t (show (10 : Int32) ≤ nI 10 from by decide) (ok_bd3 (v_Po_becomePlain fu hfu u0 u1 z) (fun e1 e2 f3 q => ok_some ⟨q.1, q.2.1, h, q.2.2.1, q.2.2.2⟩))
  | succ r ih =>
    intro i x y n hi hn h
    obtain ⟨n, rfl⟩ : ∃ m, n = m + 1 := ⟨n - 1, by omega⟩
    show ok (xb_Po_becomeBase_2 fu (x_Po_becomeBase_2 fu n) (nI o) (nI i) u0 u1 x y z) _
    unfold xb_Po_becomeBase_2
    have hin : inb (nI i) 10 = true := inb_nI (by omega) (by decide)
    have e1 : (2 : Int32) * nI o = nI (2 * o) := pk_mul 2 o
    have e2 : nI (2 * o) * (10 : Int32) = nI (2 * o * 10) := pk_mul (2 * o) 10
    have e3 : nI (2 * o * 10) + nI i = nI (20 * o + i) := by rw [nI_add]; congr 1; omega
    have e4 : nI (2 * o) + (1 : Int32) = nI (2 * o + 1) := nI_1 _
    have e5 : nI (2 * o + 1) * (10 : Int32) = nI ((2 * o + 1) * 10) := pk_mul (2 * o + 1) 10
    have e6 : nI ((2 * o + 1) * 10) + nI i = nI (20 * o + 10 + i) := by rw [nI_add]; congr 1; omega
    refine ok_f (show ¬ (10 : Int32) ≤ nI i from nI_ge (b := 10) (by omega) (by decide)) (ok_bn e1 (ok_bn e2 (ok_bn e3 (ok_gd (inb_nI (by omega) (by decide)) (ok_bnd (ok_bnd (ok_gd hin (ok_bnd (ok_bn e1 (ok_bn e4 (ok_bn e5 (ok_bn e6 (ok_gd (inb_nI (by omega) (by decide)) (ok_bnd (ok_bnd (ok_gd hin (ok_bnd (ok_bnd ?_))))))))))))))))))
    rw [nI_clamp (n := i) (by omega), nI_clamp (n := 20 * o + i) (by omega), nI_clamp (n := 20 * o + 10 + i) (by omega), nI_1]
    refine ih (i + 1) _ _ n (by omega) (by omega) (fun j hj => ?_)
    by_cases hji : j = i
    · rw [hji, pk_uLs, pk_uLs]; exact ⟨rfl, rfl⟩
    · rw [pk_uLn hji, pk_uLn hji]; exact h j (by omega)
set_option maxHeartbeats 400000 in
theorem v_Po_becomeBase (fu : Nat) (hfu : 11 ≤ fu) {o : Nat} (ho : o < 8) (u0 u1 : Int32) (x y z : Nat → Int64) : ok (x_Po_becomeBase fu (nI o) u0 u1 x y z) (fun t => t.1 = 0 ∧ t.2.1 = 1 ∧ (∀ j, j < 10 → t.2.2.1 j = tbx o j ∧ t.2.2.2.1 j = tby o j) ∧ Tv t.2.2.2.2 10 = 1 ∧ sz t.2.2.2.2 2) := by
  unfold x_Po_becomeBase
  exact l_bBa fu hfu ho u0 u1 z 10 0 x y fu (by omega) (by omega) (fun j hj => absurd hj (Nat.not_lt_zero _))
-- hasX
set_option maxHeartbeats 400000 in
theorem l_hX (fu : Nat) (hfu : 11 ≤ fu) (no pl : Int32) (gx gz h2 a0 u1 : Nat → Int64) (ha : sz a0 1) (hx : sz gx 9) : ∀ r i a n, i + r = 10 → r < n → (∀ j, j < i → (a j).toInt = (a0 j).toInt - (gx j).toInt) → (∀ j, i ≤ j → a j = a0 j) → ok (x_Cu_hasX_40 fu no pl gx gz h2 n (nI i) a u1) (fun t => ∃ f, stl f ∧ cong (Tv f 10) (Tv a0 10 - Tv gx 10) ∧ ((t.1 = 1 ∧ Tv f 10 = 0) ∨ (t.1 = 0 ∧ Tv f 10 ≠ 0))) := by
  intro r
  induction r with
  | zero =>
    intro i a n hi hn h _
    obtain ⟨n, rfl⟩ : ∃ m, n = m + 1 := ⟨n - 1, by omega⟩
    have : i = 10 := by omega
    subst this
    show ok (xb_Cu_hasX_40 fu no pl gx gz h2 (x_Cu_hasX_40 fu no pl gx gz h2 n) (nI 10) a u1) _
    unfold xb_Cu_hasX_40
    refine ok_t (show (10 : Int32) ≤ nI 10 from by decide) ?_
    have hsz : sz a 10 := fun j hj => by
      have q1 := ha j hj
      have q2 := hx j hj
      rw [h j hj]
      generalize (a0 j).toInt = b at *
      generalize (gx j).toInt = b' at *
      omega
    have ht : Tv a 10 = Tv a0 10 - Tv gx 10 := by
      have := Tv_l (f := a) (g := a0) (h := gx) (k := gx) (a := 1) (b := -1) (c := 0) (n := 10) (fun j hj => by rw [h j hj]; omega)
      omega
    refine ok_bd1 (v_Cu_settle fu (by omega) a (sz_31 hsz (by decide))) (fun f hf => ok_bd1 (v_Cu_hasNoBit fu hfu f hf.1) (fun v hv => ?_))
    rw [ht] at hf
    refine ok_gd ?_ (ok_some ⟨f, hf.1, hf.2, hv⟩)
    rcases hv with ⟨q, -⟩ | ⟨q, -⟩ <;> rw [q] <;> decide
  | succ r ih =>
    intro i a n hi hn h h'
    obtain ⟨n, rfl⟩ : ∃ m, n = m + 1 := ⟨n - 1, by omega⟩
    show ok (xb_Cu_hasX_40 fu no pl gx gz h2 (x_Cu_hasX_40 fu no pl gx gz h2 n) (nI i) a u1) _
    unfold xb_Cu_hasX_40
    have hin : inb (nI i) 10 = true := inb_nI (by omega) (by decide)
    refine ok_f (show ¬ (10 : Int32) ≤ nI i from nI_ge (b := 10) (by omega) (by decide)) (ok_gd hin (ok_bnd (ok_gd hin (ok_bnd (ok_bnd (ok_gd hin (ok_bnd (ok_bnd ?_))))))))
    rw [nI_clamp (n := i) (by omega), nI_1]
    have q1 := ha i (by omega)
    have q2 := hx i (by omega)
    refine ih (i + 1) _ n (by omega) (by omega) (fun j j1 => ?_) (fun j j1 => ?_)
    · by_cases hj : j = i
      · rw [hj, pk_uLs, h' i (Nat.le_refl _)]
        refine zz_i (zz_d (zz_s _) (zz_s _)) ?_ ?_
        · generalize (a0 i).toInt = b at *; generalize (gx i).toInt = b' at *; omega
        · generalize (a0 i).toInt = b at *; generalize (gx i).toInt = b' at *; omega
      · rw [pk_uLn hj]
        exact h j (by omega)
    · rw [pk_uLn (by omega)]
      exact h' j (by omega)
set_option maxHeartbeats 400000 in
theorem nn1_sz {f : Nat → Int64} (h : nn f 10) : sz f 1 := fun j hj => by
  have := h j hj
  generalize (f j).toInt = a at *
  omega
set_option maxHeartbeats 400000 in
/-- whether the point's x is the number -/
theorem v_Cu_hasX {F : Type} [Lean.Grind.Field F] {c : Int → F} (hc : cH pP c) (fu : Nat) (hfu : 11 ≤ fu) (no pl : Int32) (gx gy gz h2 u0 u1 : Nat → Int64) {R : Option (F × F)} {v : Nat} (hv : nv h2 v) (hno : no = 0) (h : jI c no pl gx gy gz R) : ok (x_Cu_hasX fu no pl gx gz h2 u0 u1) (fun t => (t.1 = 1 ∧ ∃ y, R = some (c (v : Int), y)) ∨ (t.1 = 0 ∧ ¬ ∃ y, R = some (c (v : Int), y))) := by
  obtain ⟨-, h⟩ := h
  rcases h with ⟨-, sx, -, sz', -, hj⟩ | ⟨h, -⟩
  · unfold x_Cu_hasX
    refine ok_bd1 (v_Cu_split fu (by omega) h2 hv.1 u0) (fun f1 h1 => ?_)
    refine ok_bd1 (v_Cu_multiply_e10 fu (by omega) gz u1 (sz_m sz' sz' (by decide) (by decide) (by decide))) (fun f2 h2' => ?_)
    refine ok_bd1 (v_Cu_multiply_e20 fu (by omega) f2 f1 (sz_m (nn1_sz h1.2) h2'.2 (by decide) (by decide) (by decide))) (fun f3 h3 => ?_)
    refine ok_mono (l_hX fu hfu no pl gx gz h2 f3 f2 h3.2 sx 10 0 f3 fu (by omega) (by omega) (fun j hj => absurd hj (Nat.not_lt_zero _)) (fun j _ => rfl)) ?_
    rintro t ⟨f, hs, hf, ht⟩
    have e2 : c (Tv f2 10) = c (Tv gz 10) * c (Tv gz 10) := by rw [c_cong hc h2'.1, c_mul hc]
    have e3 : c (Tv f3 10) = c (v : Int) * (c (Tv gz 10) * c (Tv gz 10)) := by rw [c_cong hc h3.1, c_mul hc, h1.1, hv.2, e2]
    have e4 : c (Tv f 10) = c (v : Int) * (c (Tv gz 10) * c (Tv gz 10)) - c (Tv gx 10) := by rw [c_cong hc hf, c_sub hc, e3]
    obtain ⟨hZ, x, y, rfl, hX, -⟩ := hj
    have e5 : Tv f 10 = 0 ↔ c (v : Int) = x := by
      rw [stl_0 hc hs, e4, hX]
      generalize c (Tv gz 10) = Z at *
      generalize c (v : Int) = V at *
      constructor
      · intro q; grind
      · intro q; rw [q]; grind
    rcases ht with ⟨t1, t2⟩ | ⟨t1, t2⟩
    · exact Or.inl ⟨t1, y, by rw [e5.mp t2]⟩
    · refine Or.inr ⟨t1, ?_⟩
      rintro ⟨y', q⟩
      exact t2 (e5.mpr (congrArg Prod.fst (Option.some.inj q)).symm)
  · exact absurd (hno.symm.trans h) (by decide)
-- readCoordinate
set_option maxHeartbeats 400000 in
theorem v_Cu_readCoordinate (fu n1 : Nat) (hfu : 40 ≤ fu) (hn1 : n1 < 2 ^ 31) (h : Nat → Int32) {a : Nat} (ha : a + 32 ≤ n1) (u0 u1 : Nat → Int64) : ok (x_Cu_readCoordinate fu n1 h (nI a) u0 u1) (fun t => (t.1 = 1 ∧ beN h a 32 < pP ∧ Tv t.2.2 10 = (beN h a 32 : Int) ∧ nn t.2.2 10) ∨ (t.1 = 0 ∧ ¬ beN h a 32 < pP)) := by
  unfold x_Cu_readCoordinate
  rw [show (32 : Int32) = nI 32 from rfl]
  refine ok_bd1 (v_Sc_load fu n1 hfu hn1 h (a := a) (n := 32) (by omega) ha u0) (fun f1 h1 => ?_)
  rw [v_Sc_compare_s1x5 fu (by omega) f1 (nv_nm h1), bd1_q, W_5, h1.2]
  refine ok_ite (fun g => ?_) (fun g => ok_some (Or.inr ⟨rfl, fun q => g ((cmpI_lt _ _).mpr (Int.ofNat_lt.mpr q))⟩))
  have g := Int.ofNat_lt.mp ((cmpI_lt _ _).mp g)
  refine ok_bd1 (v_Cu_split fu (by omega) f1 h1.1 u1) (fun f3 h3 => ok_some (Or.inl ⟨rfl, g, ?_, h3.2⟩))
  show Tv f3 10 = _
  rw [h3.1, h1.2]
