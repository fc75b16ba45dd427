-- add
set_option maxHeartbeats 400000 in
theorem sz_c {x y : Nat → Int64} {s : Int} (e : ∀ j, j < 10 → y j = x j) (h : sz x s) : sz y s := fun j hj => by rw [e j hj]; exact h j hj
set_option maxHeartbeats 400000 in
theorem jI_c {F : Type} [Lean.Grind.Field F] {c : Int → F} {no pl : Int32} {x y z x' y' z' : Nat → Int64} {R : Option (F × F)} (ex : ∀ j, j < 10 → x' j = x j) (ey : ∀ j, j < 10 → y' j = y j) (ez : ∀ j, j < 10 → z' j = z j) (h : jI c no pl x y z R) : jI c no pl x' y' z' R := by
  obtain ⟨h1, h2⟩ := h
  refine ⟨h1, ?_⟩
  rcases h2 with ⟨a, b, d, e, f, g⟩ | h2
  · refine Or.inl ⟨a, sz_c ex b, sz_c ey d, sz_c ez e, ?_, ?_⟩
    · rw [Tv_c ez]; exact f
    · rw [Tv_c ez, Tv_c ex, Tv_c ey]; exact g
  · exact Or.inr h2
set_option maxHeartbeats 400000 in
theorem cpy10 {f g : Nat → Int64} (j : Nat) (hj : j < 10) : va_cpy f g (0 : Int32).toNatClampNeg (0 : Int32).toNatClampNeg (10 : Int32).toNatClampNeg j = f j := by
  show (if 0 ≤ j ∧ j < 0 + 10 then f (0 + (j - 0)) else g j) = f j
  rw [if_pos ⟨Nat.zero_le _, by omega⟩, Nat.zero_add, Nat.sub_zero]
set_option maxHeartbeats 400000 in
theorem v_Po_become (fu : Nat) (no pl : Int32) (hno : no = 0 ∨ no = 1) (hpl : pl = 0 ∨ pl = 1) (x y z : Nat → Int64) (u0 u1 : Int32) (u2 u3 u4 : Nat → Int64) : ok (x_Po_become fu no pl x y z u0 u1 u2 u3 u4) (fun t => t.1 = no ∧ t.2.1 = pl ∧ (∀ j, j < 10 → t.2.2.1 j = x j) ∧ (∀ j, j < 10 → t.2.2.2.1 j = y j) ∧ ∀ j, j < 10 → t.2.2.2.2 j = z j) := by
  unfold x_Po_become
  have e0 : isb no = true := by rcases hno with rfl | rfl <;> decide
  have e1 : isb pl = true := by rcases hpl with rfl | rfl <;> decide
  refine ok_gd (by decide) (ok_bnd (ok_gd (by decide) (ok_bnd (ok_gd (by decide) (ok_bnd (ok_gd e0 (ok_gd e1 (ok_some ⟨rfl, rfl, cpy10, cpy10, cpy10⟩))))))))
abbrev T11 : Type := Int32 × (Nat → Int64) × (Nat → Int64) × (Nat → Int64) × (Nat → Int64) × (Nat → Int64) × Int32 × Int32 × (Nat → Int64) × (Nat → Int64) × (Nat → Int64)
def aP {F : Type} [Lean.Grind.Field F] [DecidableEq F] (c : Int → F) (P Q : Option (F × F)) (t : T11) : Prop := (t.1 = 1 ∧ jI c t.2.2.2.2.2.2.1 t.2.2.2.2.2.2.2.1 t.2.2.2.2.2.2.2.2.1 t.2.2.2.2.2.2.2.2.2.1 t.2.2.2.2.2.2.2.2.2.2 (ea P Q)) ∨ (t.1 = 0 ∧ P = Q ∧ jI c t.2.2.2.2.2.2.1 t.2.2.2.2.2.2.2.1 t.2.2.2.2.2.2.2.2.1 t.2.2.2.2.2.2.2.2.2.1 t.2.2.2.2.2.2.2.2.2.2 P)
set_option maxHeartbeats 400000 in
theorem l_ad500 (fu : Nat) (no2 pl2 : Int32) (x2 y2 z2 : Nat → Int64) (u0 b u2 u3 u4 : Nat → Int64) (u5 u6 : Int32) (u7 y0 u9 : Nat → Int64) (hb : sz b 1) (hy : sz y0 1) : ∀ r i y n, i + r = 10 → r < n → (∀ j, j < i → (y j).toInt = (y0 j).toInt - (b j).toInt) → (∀ j, i ≤ j → y j = y0 j) → ok (x_Cu_add_500 fu no2 pl2 x2 y2 z2 n (nI i) u0 b u2 u3 u4 u5 u6 u7 y u9) (fun t => ∃ y, t = (1, u0, b, u2, u3, u4, u5, 0, u7, y, u9) ∧ ∀ j, j < 10 → (y j).toInt = (y0 j).toInt - (b j).toInt) := by
  intro r
  induction r with
  | zero =>
    intro i y n hi hn h _
    obtain ⟨n, rfl⟩ : ∃ m, n = m + 1 := ⟨n - 1, by omega⟩
    have : i = 10 := by omega
    subst this
    show ok (xb_Cu_add_500 fu no2 pl2 x2 y2 z2 (x_Cu_add_500 fu no2 pl2 x2 y2 z2 n) (nI 10) u0 b u2 u3 u4 u5 u6 u7 y u9) _
    unfold xb_Cu_add_500
    exact ok_t (show (10 : Int32) ≤ nI 10 from by decide) (ok_some ⟨y, rfl, h⟩)
  | succ r ih =>
    intro i y n hi hn h h'
    obtain ⟨n, rfl⟩ : ∃ m, n = m + 1 := ⟨n - 1, by omega⟩
    show ok (xb_Cu_add_500 fu no2 pl2 x2 y2 z2 (x_Cu_add_500 fu no2 pl2 x2 y2 z2 n) (nI i) u0 b u2 u3 u4 u5 u6 u7 y u9) _
    unfold xb_Cu_add_500
    have hin : inb (nI i) 10 = true := inb_nI (by omega) (by decide)
    refine ok_f (show ¬ (10 : Int32) ≤ nI i from nI_ge (b := 10) (by omega) (by decide)) (ok_gd hin (ok_bnd (ok_gd hin (ok_bnd (ok_bnd (ok_gd hin (ok_bnd (ok_bnd ?_))))))))
    rw [nI_clamp (n := i) (by omega), nI_1]
    have q1 := hb i (by omega)
    have q2 := hy i (by omega)
    refine ih (i + 1) _ n (by omega) (by omega) (fun j j1 => ?_) (fun j j1 => ?_)
    · by_cases hj : j = i
      · rw [hj, pk_uLs, h' i (Nat.le_refl _)]
        refine zz_i (zz_d (zz_s _) (zz_s _)) ?_ ?_
        · generalize (b i).toInt = b at *; generalize (y0 i).toInt = b' at *; omega
        · generalize (b i).toInt = b at *; generalize (y0 i).toInt = b' at *; omega
      · rw [pk_uLn hj]
        exact h j (by omega)
    · rw [pk_uLn (by omega)]
      exact h' j (by omega)
set_option maxHeartbeats 400000 in
theorem l_ad418 (fu : Nat) (no2 pl2 : Int32) (x2 y2 z2 : Nat → Int64) (a0 u1 cc u3 ff : Nat → Int64) (u5 u6 : Int32) (u8 u9 : Nat → Int64) (P : T11 → Prop) (ha : sz a0 1) (hcc : sz cc 1) (hff : sz ff 1) (hk : ∀ x a, (∀ j, j < 10 → (x j).toInt = (ff j).toInt - (cc j).toInt - 2 * (a0 j).toInt ∧ (a j).toInt = (a0 j).toInt - (x j).toInt) → ok (bd1 (x_Cu_multiply fu u3 a u8) fun f1 => x_Cu_add_500 fu no2 pl2 x2 y2 z2 fu (0 : Int32) a u1 cc u3 ff u5 u6 x f1 u9) P) : ∀ r i a x n, i + r = 10 → r < n → (∀ j, j < i → (x j).toInt = (ff j).toInt - (cc j).toInt - 2 * (a0 j).toInt ∧ (a j).toInt = (a0 j).toInt - (x j).toInt) → (∀ j, i ≤ j → a j = a0 j) → ok (x_Cu_add_418 fu no2 pl2 x2 y2 z2 n (nI i) a u1 cc u3 ff u5 u6 x u8 u9) P := by
  intro r
  induction r with
  | zero =>
    intro i a x n hi hn h _
    obtain ⟨n, rfl⟩ : ∃ m, n = m + 1 := ⟨n - 1, by omega⟩
    have : i = 10 := by omega
    subst this
    show ok (xb_Cu_add_418 fu no2 pl2 x2 y2 z2 (x_Cu_add_418 fu no2 pl2 x2 y2 z2 n) (nI 10) a u1 cc u3 ff u5 u6 x u8 u9) _
    unfold xb_Cu_add_418
    exact ok_t (show (10 : Int32) ≤ nI 10 from by decide) (hk x a h)
  | succ r ih =>
    intro i a x n hi hn h h'
    obtain ⟨n, rfl⟩ : ∃ m, n = m + 1 := ⟨n - 1, by omega⟩
    show ok (xb_Cu_add_418 fu no2 pl2 x2 y2 z2 (x_Cu_add_418 fu no2 pl2 x2 y2 z2 n) (nI i) a u1 cc u3 ff u5 u6 x u8 u9) _
    unfold xb_Cu_add_418
    have hin : inb (nI i) 10 = true := inb_nI (by omega) (by decide)
    refine ok_f (show ¬ (10 : Int32) ≤ nI i from nI_ge (b := 10) (by omega) (by decide)) (ok_gd hin (ok_bnd (ok_gd hin (ok_bnd (ok_bnd (ok_gd hin (ok_bnd (ok_bv fun v6 e6 => ok_gd hin (ok_bnd (ok_gd hin (ok_bnd (ok_gd hin (ok_bnd (ok_bv fun v10 e10 => ok_gd hin (ok_bnd (ok_bnd ?_))))))))))))))))
    rw [nI_clamp (n := i) (by omega)] at e6 e10 ⊢
    rw [nI_1]
    have q1 := ha i (by omega)
    have q2 := hcc i (by omega)
    have q3 := hff i (by omega)
    rw [h' i (Nat.le_refl _)] at e6 e10
    rw [pk_uLs] at e10
    have i6 : v6.toInt = (ff i).toInt - (cc i).toInt - 2 * (a0 i).toInt := by
      refine zz_i (by rw [e6]; exact zz_d (zz_d (zz_s _) (zz_s _)) (zz_m (zz_k rfl) (zz_s _))) ?_ ?_
      · generalize (a0 i).toInt = b at *; generalize (cc i).toInt = b' at *; generalize (ff i).toInt = b'' at *; omega
      · generalize (a0 i).toInt = b at *; generalize (cc i).toInt = b' at *; generalize (ff i).toInt = b'' at *; omega
    have i10 : v10.toInt = (a0 i).toInt - v6.toInt := by
      refine zz_i (by rw [e10]; exact zz_d (zz_s _) (zz_s _)) ?_ ?_
      · generalize (a0 i).toInt = b at *; generalize (cc i).toInt = b' at *; generalize (ff i).toInt = b'' at *; generalize v6.toInt = t at *; omega
      · generalize (a0 i).toInt = b at *; generalize (cc i).toInt = b' at *; generalize (ff i).toInt = b'' at *; generalize v6.toInt = t at *; omega
    refine ih (i + 1) _ _ n (by omega) (by omega) (fun j j1 => ?_) (fun j j1 => ?_)
    · by_cases hj : j = i
      · rw [hj, pk_uLs, pk_uLs]
        exact ⟨i6, i10⟩
      · rw [pk_uLn hj, pk_uLn hj]
        exact h j (by omega)
    · rw [pk_uLn (by omega)]
      exact h' j (by omega)
set_option maxHeartbeats 400000 in
theorem l_ad188 (fu : Nat) (no2 pl2 : Int32) (x2 y2 z2 : Nat → Int64) (x3 : Int32) (a b c0 d0 u4 : Nat → Int64) (u5 u6 : Int32) (u7 u8 u9 : Nat → Int64) (P : T11 → Prop) (sg : Int) (hsg : (x3 = 0 ∧ sg = 1) ∨ (x3 ≠ 0 ∧ sg = -1)) (ha : sz a 9) (hb : sz b 9) (hcc : sz c0 1) (hdd : sz d0 1) (hk : ∀ cc dd K, (∀ j, j < 10 → (cc j).toInt = (c0 j).toInt - (a j).toInt ∧ (dd j).toInt = sg * (d0 j).toInt - (b j).toInt) → ok (xb_Cu_add_188 fu no2 pl2 x2 y2 z2 K x3 (nI 10) a b cc dd u4 u5 u6 u7 u8 u9) P) : ∀ r i cc dd n, i + r = 10 → r < n → (∀ j, j < i → (cc j).toInt = (c0 j).toInt - (a j).toInt ∧ (dd j).toInt = sg * (d0 j).toInt - (b j).toInt) → (∀ j, i ≤ j → cc j = c0 j ∧ dd j = d0 j) → ok (x_Cu_add_188 fu no2 pl2 x2 y2 z2 n x3 (nI i) a b cc dd u4 u5 u6 u7 u8 u9) P := by
  intro r
  induction r with
  | zero =>
    intro i cc dd n hi hn h _
    obtain ⟨n, rfl⟩ : ∃ m, n = m + 1 := ⟨n - 1, by omega⟩
    have : i = 10 := by omega
    subst this
    exact hk cc dd _ h
  | succ r ih =>
    intro i cc dd n hi hn h h'
    obtain ⟨n, rfl⟩ : ∃ m, n = m + 1 := ⟨n - 1, by omega⟩
    show ok (xb_Cu_add_188 fu no2 pl2 x2 y2 z2 (x_Cu_add_188 fu no2 pl2 x2 y2 z2 n) x3 (nI i) a b cc dd u4 u5 u6 u7 u8 u9) _
    unfold xb_Cu_add_188 xb_Cu_add_240
    have hin : inb (nI i) 10 = true := inb_nI (by omega) (by decide)
    refine ok_f (show ¬ (10 : Int32) ≤ nI i from nI_ge (b := 10) (by omega) (by decide)) (ok_gd hin (ok_bnd (ok_gd hin (ok_bnd (ok_bv fun v9 e9 => ok_gd hin (ok_bnd ?_))))))
    rw [nI_clamp (n := i) (by omega)] at e9 ⊢
    rw [nI_1]
    have q1 := ha i (by omega)
    have q2 := hb i (by omega)
    have q3 := hcc i (by omega)
    have q4 := hdd i (by omega)
    rw [(h' i (Nat.le_refl _)).1] at e9
    rw [(h' i (Nat.le_refl _)).2]
    have i9 : v9.toInt = (c0 i).toInt - (a i).toInt := by
      refine zz_i (by rw [e9]; exact zz_d (zz_s _) (zz_s _)) ?_ ?_
      · generalize (c0 i).toInt = b at *; generalize (a i).toInt = b' at *; omega
      · generalize (c0 i).toInt = b at *; generalize (a i).toInt = b' at *; omega
    have step : ∀ v : Int64, v.toInt = sg * (d0 i).toInt - (b i).toInt → ok (x_Cu_add_188 fu no2 pl2 x2 y2 z2 n x3 (nI (i + 1)) a b (vp_updL cc i v9) (vp_updL dd i v) u4 u5 u6 u7 u8 u9) P := by
      intro v hv
      refine ih (i + 1) _ _ n (by omega) (by omega) (fun j j1 => ?_) (fun j j1 => ?_)
      · by_cases hj : j = i
        · rw [hj, pk_uLs, pk_uLs]
          exact ⟨i9, hv⟩
        · rw [pk_uLn hj, pk_uLn hj]
          exact h j (by omega)
      · rw [pk_uLn (by omega), pk_uLn (by omega)]
        exact h' j (by omega)
    rcases hsg with ⟨h3, hs⟩ | ⟨h3, hs⟩
    · refine ok_t h3 (ok_gd hin (ok_bnd (ok_gd hin (ok_bnd (ok_bnd (ok_gd hin (ok_bnd (ok_bnd (step _ ?_)))))))))
      rw [hs]
      refine zz_i (zz_d (by rw [Int.one_mul]; exact zz_s _) (zz_s _)) ?_ ?_
      · generalize (d0 i).toInt = t at *; generalize (b i).toInt = b' at *; omega
      · generalize (d0 i).toInt = t at *; generalize (b i).toInt = b' at *; omega
    · refine ok_f h3 (ok_gd hin (ok_bnd (ok_gd hin (ok_bnd (ok_bnd (ok_gd hin (ok_bnd (ok_bnd (step _ ?_)))))))))
      rw [hs]
      refine zz_i (zz_d (by rw [show -1 * (d0 i).toInt = -(d0 i).toInt from by omega]; exact zz_n (zz_s _)) (zz_s _)) ?_ ?_
      · generalize (d0 i).toInt = t at *; generalize (b i).toInt = b' at *; omega
      · generalize (d0 i).toInt = t at *; generalize (b i).toInt = b' at *; omega
