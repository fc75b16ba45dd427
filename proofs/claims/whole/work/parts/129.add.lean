-- add, whole
set_option maxHeartbeats 400000 in
theorem nn_sz {f : Nat → Int64} (h : stl f) : sz f 1 := fun j hj => by
  have := nn10 h j hj
  generalize (f j).toInt = a at *
  omega
set_option maxHeartbeats 400000 in
theorem sz_31 {f : Nat → Int64} {s : Int} (h : sz f s) (hs : s ≤ 30) : ∀ j, j < 10 → -2 ^ 31 ≤ (f j).toInt ∧ (f j).toInt ≤ 2 ^ 31 := fun j hj => by
  have := h j hj
  generalize (f j).toInt = a at *
  omega
set_option maxHeartbeats 400000 in
theorem stl_0 {F : Type} [Lean.Grind.Field F] {c : Int → F} (hc : cH pP c) {f : Nat → Int64} (h : stl f) : Tv f 10 = 0 ↔ c (Tv f 10) = 0 := by
  constructor
  · intro q
    rw [q, c_0 hc]
  · intro q
    have h1 := (Tv_nn (nn10 h)).1
    have h2 := h.2.2
    rw [← pP_i] at h2
    obtain ⟨n, hn⟩ := Int.eq_ofNat_of_zero_le h1
    rw [hn] at q h2 ⊢
    have : n = 0 := c_inj hc (by omega) pP_0 (by rw [q]; exact (c_0 hc).symm)
    rw [this]
    rfl
set_option maxHeartbeats 400000 in
/-- behind H ≠ 0 -/
theorem l_ad340 {F : Type} [Lean.Grind.Field F] [DecidableEq F] {c : Int → F} (hc : cH pP c) (fu : Nat) (hfu : 11 ≤ fu) (no2 pl2 : Int32) (x2 y2 z2 : Nat → Int64) (a b h d f : Nat → Int64) (u6 : Int32) (x y w : Nat → Int64) {P Q : Option (F × F)} {X1 Y1 Z1 X2 Y2 Z2 : F} (hP : jr X1 Y1 Z1 P) (hQ : jr X2 Y2 Z2 Q) (sa : sz a 9) (sb : sz b 9) (sh : sz h 1) (sd : sz d 10) (sw : sz w 2) (eA : c (Tv a 10) = X1 * (Z2 * Z2)) (eB : c (Tv b 10) = Y1 * (Z2 * Z2 * Z2)) (eH : c (Tv h 10) = X2 * (Z1 * Z1) - c (Tv a 10)) (eR : c (Tv d 10) = Y2 * (Z1 * Z1 * Z1) - c (Tv b 10)) (hH : c (Tv h 10) ≠ 0) (eW : c (Tv w 10) = Z1 * c (Tv h 10) * Z2) : ok (xb_Cu_add_340 fu no2 pl2 x2 y2 z2 a b h d f 0 u6 x y w) (aP c P Q) := by
  unfold xb_Cu_add_340
  refine ok_bd1 (v_Cu_multiply_e10 fu (by omega) h f (sz_m sh sh (by decide) (by decide) (by decide))) (fun f1 h1 => ?_)
  refine ok_bd1 (v_Cu_multiply_e20 fu (by omega) f1 h (sz_m sh h1.2 (by decide) (by decide) (by decide))) (fun f2 h2 => ?_)
  refine ok_bd1 (v_Cu_multiply_e20 fu (by omega) f1 a (sz_m sa h1.2 (by decide) (by decide) (by decide))) (fun f3 h3 => ?_)
  refine ok_bd1 (v_Cu_multiply_e20 fu (by omega) f2 b (sz_m sb h2.2 (by decide) (by decide) (by decide))) (fun f4 h4 => ?_)
  refine ok_bd1 (v_Cu_multiply_e10 fu (by omega) d f1 (sz_m sd sd (by decide) (by decide) (by decide))) (fun f5 h5 => ?_)
  refine l_ad418 fu no2 pl2 x2 y2 z2 f3 f4 f2 d f5 0 u6 y w _ h3.2 h2.2 h5.2 ?_ 10 0 f3 x fu (by omega) (by omega) (fun j hj => absurd hj (Nat.not_lt_zero _)) (fun j _ => rfl)
  intro x' a' hxa
  have sx' : sz x' 9 := fun j hj => by
    have q1 := h3.2 j hj
    have q2 := h2.2 j hj
    have q3 := h5.2 j hj
    rw [(hxa j hj).1]
    generalize (f3 j).toInt = b at *
    generalize (f2 j).toInt = b' at *
    generalize (f5 j).toInt = b'' at *
    omega
  have sa' : sz a' 10 := fun j hj => by
    have q1 := h3.2 j hj
    have q2 := sx' j hj
    rw [(hxa j hj).2]
    generalize (f3 j).toInt = b at *
    generalize (x' j).toInt = b' at *
    omega
  refine ok_bd1 (v_Cu_multiply fu (by omega) d a' y (sz_m sd sa' (by decide) (by decide) (by decide))) (fun g hg => ?_)
  refine ok_mono (l_ad500 fu no2 pl2 x2 y2 z2 a' f4 f2 d f5 0 u6 x' g w h4.2 hg.2 10 0 g fu (by omega) (by omega) (fun j hj => absurd hj (Nat.not_lt_zero _)) (fun j _ => rfl)) ?_
  rintro t ⟨y', rfl, hy'⟩
  have sy' : sz y' 9 := fun j hj => by
    have q1 := h4.2 j hj
    have q2 := hg.2 j hj
    rw [hy' j hj]
    generalize (f4 j).toInt = b at *
    generalize (g j).toInt = b' at *
    omega
  refine Or.inl ⟨rfl, Or.inl rfl, Or.inl ⟨rfl, sx', sy', sw, fun q => absurd (show (0 : Int32) = 1 from q) (by decide), ?_⟩⟩
  show jr (c (Tv x' 10)) (c (Tv y' 10)) (c (Tv w 10)) (ea P Q)
  have tx : Tv x' 10 = Tv f5 10 - Tv f2 10 - 2 * Tv f3 10 := by
    have := Tv_l (f := x') (g := f5) (h := f2) (k := f3) (a := 1) (b := -1) (c := -2) (n := 10) (fun j hj => by rw [(hxa j hj).1]; omega)
    omega
  have ta : Tv a' 10 = Tv f3 10 - Tv x' 10 := by
    have := Tv_l (f := a') (g := f3) (h := x') (k := x') (a := 1) (b := -1) (c := 0) (n := 10) (fun j hj => by rw [(hxa j hj).2]; omega)
    omega
  have ty : Tv y' 10 = Tv g 10 - Tv f4 10 := by
    have := Tv_l (f := y') (g := g) (h := f4) (k := f4) (a := 1) (b := -1) (c := 0) (n := 10) (fun j hj => by rw [hy' j hj]; omega)
    omega
  have k1 : c (Tv f1 10) = c (Tv h 10) * c (Tv h 10) := by rw [c_cong hc h1.1, c_mul hc]
  have k2 : c (Tv f2 10) = c (Tv h 10) * c (Tv h 10) * c (Tv h 10) := by rw [c_cong hc h2.1, c_mul hc, k1]; grind
  have k3 : c (Tv f3 10) = c (Tv a 10) * (c (Tv h 10) * c (Tv h 10)) := by rw [c_cong hc h3.1, c_mul hc, k1]
  have k4 : c (Tv f4 10) = c (Tv b 10) * (c (Tv h 10) * c (Tv h 10) * c (Tv h 10)) := by rw [c_cong hc h4.1, c_mul hc, k2]
  have k5 : c (Tv f5 10) = c (Tv d 10) * c (Tv d 10) := by rw [c_cong hc h5.1, c_mul hc]
  have kg : c (Tv g 10) = c (Tv d 10) * c (Tv a' 10) := by rw [c_cong hc hg.1, c_mul hc]
  refine jr_add hP hQ eA eB eH eR hH eW ?_ ?_
  · rw [tx, c_sub hc, c_sub hc, c_mul hc, c_2 hc, k5, k2, k3]
  · rw [ty, c_sub hc, kg, ta, c_sub hc, k3, k4]
set_option maxHeartbeats 400000 in
/-- behind the loop: c and d are made -/
theorem l_ad10 {F : Type} [Lean.Grind.Field F] [DecidableEq F] {c : Int → F} (hc : cH pP c) (fu : Nat) (hfu : 11 ≤ fu) (no2 pl2 : Int32) (x2 y2 z2 : Nat → Int64) (x3 : Int32) (a b h d f : Nat → Int64) (pl : Int32) (hpl : pl = 0 ∨ pl = 1) (x y z : Nat → Int64) {P Q : Option (F × F)} {Y2' Y2 : F} (onP : onC (c 7) P) (onQ : onC (c 7) Q) (sx : sz x 9) (sy : sz y 9) (sz' : sz z 2) (hz1 : pl = 1 → c (Tv z 10) = 1) (hP : jr (c (Tv x 10)) (c (Tv y 10)) (c (Tv z 10)) P) (hQ : jr (c (Tv x2 10)) Y2 (c (Tv z2 10)) Q) (sz2 : sz z2 2) (h2p : pl2 = 0 ∨ (pl2 ≠ 0 ∧ c (Tv z2 10) = 1)) (sa : sz a 9) (sb : sz b 9) (sh : sz h 10) (sd : sz d 10) (eA : c (Tv a 10) = c (Tv x 10) * (c (Tv z2 10) * c (Tv z2 10))) (eB : c (Tv b 10) = c (Tv y 10) * (c (Tv z2 10) * c (Tv z2 10) * c (Tv z2 10))) (eH : c (Tv h 10) = c (Tv x2 10) * (c (Tv z 10) * c (Tv z 10)) - c (Tv a 10)) (eR : c (Tv d 10) = Y2 * (c (Tv z 10) * c (Tv z 10) * c (Tv z 10)) - c (Tv b 10)) (K : _) : ok (xb_Cu_add_188 fu no2 pl2 x2 y2 z2 K x3 (nI 10) a b h d f 0 pl x y z) (aP c P Q) := by
  unfold xb_Cu_add_188
  refine ok_t (show (10 : Int32) ≤ nI 10 from by decide) ?_
  refine ok_bd1 (v_Cu_settle fu (by omega) h (sz_31 sh (by decide))) (fun f1 h1 => ?_)
  refine ok_bd1 (v_Cu_hasNoBit fu (by omega) f1 h1.1) (fun v2 hv2 => ?_)
  have k1 : c (Tv f1 10) = c (Tv h 10) := c_cong hc h1.2
  rcases hv2 with ⟨hv, h0⟩ | ⟨hv, h0⟩
  · -- the same x
    have hH : c (Tv h 10) = 0 := by rw [← k1]; exact (stl_0 hc h1.1).mp h0
    refine ok_f (by rw [hv]; decide) ?_
    refine ok_bd1 (v_Cu_settle fu (by omega) d (sz_31 sd (by decide))) (fun f5 h5 => ?_)
    refine ok_bd1 (v_Cu_hasNoBit fu (by omega) f5 h5.1) (fun v6 hv6 => ?_)
    have k5 : c (Tv f5 10) = c (Tv d 10) := c_cong hc h5.2
    rw [eH, eA] at hH
    obtain ⟨px, py, py', rfl, rfl, hd⟩ := jr_eq hP hQ hH
    rw [← eB, ← eR, ← k5] at hd
    rcases hv6 with ⟨hw, g0⟩ | ⟨hw, g0⟩
    · refine ok_f (by rw [hw]; decide) ?_
      unfold xb_Cu_add_295
      refine ok_gd (by decide) (ok_gd (by decide) (ok_some (Or.inr ⟨rfl, ?_, hpl, Or.inl ⟨rfl, sx, sy, sz', hz1, hP⟩⟩)))
      rw [hd.mp ((stl_0 hc h5.1).mp g0)]
    · refine ok_t hw ?_
      unfold xb_Cu_add_295
      refine ok_gd (by decide) (ok_gd (by decide) (ok_some (Or.inl ⟨rfl, hpl, Or.inr ⟨rfl, ?_⟩⟩)))
      have hne : py ≠ py' := fun q => g0 ((stl_0 hc h5.1).mpr (hd.mpr q))
      have o1 : py * py = px * px * px + c 7 := onP
      have o2 : py' * py' = px * px * px + c 7 := onQ
      refine ea_0 ⟨rfl, ?_⟩
      apply Decidable.byContradiction
      intro q
      have q1 : py - py' ≠ 0 := fun e => hne (by grind)
      have q2 : py + py' ≠ 0 := fun e => q (by grind)
      apply f_m0 q1 q2
      grind
  · have hH : c (Tv f1 10) ≠ 0 := fun q => h0 ((stl_0 hc h1.1).mpr q)
    refine ok_t hv ?_
    refine ok_bd1 (v_Cu_multiply_e20 fu (by omega) f1 z (sz_m sz' (nn_sz h1.1) (by decide) (by decide) (by decide))) (fun f3 h3 => ?_)
    have k3 : c (Tv f3 10) = c (Tv z 10) * c (Tv f1 10) := by rw [c_cong hc h3.1, c_mul hc]
    rcases h2p with hp | ⟨hp, hz2⟩
    · refine ok_t hp ?_
      refine ok_bd1 (v_Cu_multiply_e20 fu (by omega) z2 f3 (sz_m h3.2 sz2 (by decide) (by decide) (by decide))) (fun f4 h4 => ?_)
      have k4 : c (Tv f4 10) = c (Tv z 10) * c (Tv f1 10) * c (Tv z2 10) := by rw [c_cong hc h4.1, c_mul hc, k3]
      exact l_ad340 hc fu hfu no2 pl2 x2 y2 z2 a b f1 d f pl x y f4 hP hQ sa sb (nn_sz h1.1) sd (sz_w h4.2 (by decide)) eA eB (by rw [k1, eH]) eR hH k4
    · refine ok_f hp ?_
      exact l_ad340 hc fu hfu no2 pl2 x2 y2 z2 a b f1 d f pl x y f3 hP hQ sa sb (nn_sz h1.1) sd (sz_w h3.2 (by decide)) eA eB (by rw [k1, eH]) eR hH (by rw [k3, hz2]; grind)
set_option maxHeartbeats 400000 in
theorem v_Cu_add {F : Type} [Lean.Grind.Field F] [DecidableEq F] {c : Int → F} (hc : cH pP c) (fu : Nat) (hfu : 11 ≤ fu) (pl2 : Int32) (x2 y2 z2 : Nat → Int64) (a3 : Int32) (u0 u1 u2 u3 u4 : Nat → Int64) (no pl : Int32) (x y z : Nat → Int64) {P Q : Option (F × F)} (onP : onC (c 7) P) (onQ : onC (c 7) Q) (hP : jI c no pl x y z P) (hQ : jI c 0 pl2 x2 y2 z2 Q) : ok (x_Cu_add fu 0 pl2 x2 y2 z2 a3 u0 u1 u2 u3 u4 no pl x y z) (aP c P (if a3 = 0 then Q else en Q)) := by
  unfold x_Cu_add
  obtain ⟨hpl2, hQ'⟩ := hQ
  obtain ⟨hpl, hP'⟩ := hP
  rcases hQ' with ⟨-, sx2, sy2, sz2, hz2, jQ⟩ | ⟨h1, -⟩
  · rcases hP' with ⟨h0, sx, sy, sz', hz1, jP⟩ | ⟨h1, hr⟩
    · subst h0
      refine ok_t rfl ?_
      refine ok_bd1 (v_Cu_multiply_e10 fu (by omega) z u4 (sz_m sz' sz' (by decide) (by decide) (by decide))) (fun f1 h1 => ?_)
      refine ok_bd1 (v_Cu_multiply fu (by omega) x2 f1 u2 (sz_m sx2 h1.2 (by decide) (by decide) (by decide))) (fun f2 h2 => ?_)
      refine ok_bd1 (v_Cu_multiply_e20 fu (by omega) z f1 (sz_m h1.2 sz' (by decide) (by decide) (by decide))) (fun f3 h3 => ?_)
      refine ok_bd1 (v_Cu_multiply fu (by omega) y2 f3 u3 (sz_m sy2 h3.2 (by decide) (by decide) (by decide))) (fun f4 h4 => ?_)
      have k1 : c (Tv f1 10) = c (Tv z 10) * c (Tv z 10) := by rw [c_cong hc h1.1, c_mul hc]
      have k2 : c (Tv f2 10) = c (Tv x2 10) * (c (Tv z 10) * c (Tv z 10)) := by rw [c_cong hc h2.1, c_mul hc, k1]
      have k3 : c (Tv f3 10) = c (Tv z 10) * c (Tv z 10) * c (Tv z 10) := by rw [c_cong hc h3.1, c_mul hc, k1]
      have k4 : c (Tv f4 10) = c (Tv y2 10) * (c (Tv z 10) * c (Tv z 10) * c (Tv z 10)) := by rw [c_cong hc h4.1, c_mul hc, k3]
      -- both ways go on alike
      have go : ∀ a b f, sz a 9 → sz b 9 → c (Tv a 10) = c (Tv x 10) * (c (Tv z2 10) * c (Tv z2 10)) → c (Tv b 10) = c (Tv y 10) * (c (Tv z2 10) * c (Tv z2 10) * c (Tv z2 10)) → ok (xb_Cu_add_185 fu 0 pl2 x2 y2 z2 a3 a b f2 f4 f 0 pl x y z) (aP c P (if a3 = 0 then Q else en Q)) := by
        intro a b f sa sb ea' eb'
        unfold xb_Cu_add_185
        have hsg : ∃ sg : Int, ((a3 = 0 ∧ sg = 1) ∨ (a3 ≠ 0 ∧ sg = -1)) := by
          by_cases h3 : a3 = 0
          · exact ⟨1, Or.inl ⟨h3, rfl⟩⟩
          · exact ⟨-1, Or.inr ⟨h3, rfl⟩⟩
        obtain ⟨sg, hsg⟩ := hsg
        refine l_ad188 fu 0 pl2 x2 y2 z2 a3 a b f2 f4 f 0 pl x y z _ sg hsg sa sb h2.2 h4.2 ?_ 10 0 f2 f4 fu (by omega) (by omega) (fun j hj => absurd hj (Nat.not_lt_zero _)) (fun j _ => ⟨rfl, rfl⟩)
        intro cc dd K hcd
        have scc : sz cc 10 := fun j hj => by
          have q1 := h2.2 j hj
          have q2 := sa j hj
          rw [(hcd j hj).1]
          generalize (f2 j).toInt = b at *
          generalize (a j).toInt = b' at *
          omega
        have sdd : sz dd 10 := fun j hj => by
          have q1 := h4.2 j hj
          have q2 := sb j hj
          rw [(hcd j hj).2]
          generalize (f4 j).toInt = t at *
          generalize (b j).toInt = b' at *
          rcases hsg with ⟨-, rfl⟩ | ⟨-, rfl⟩ <;> omega
        have tc : Tv cc 10 = Tv f2 10 - Tv a 10 := by
          have := Tv_l (f := cc) (g := f2) (h := a) (k := a) (a := 1) (b := -1) (c := 0) (n := 10) (fun j hj => by rw [(hcd j hj).1]; omega)
          omega
        have td : Tv dd 10 = sg * Tv f4 10 - Tv b 10 := by
          have := Tv_l (f := dd) (g := f4) (h := b) (k := b) (a := sg) (b := -1) (c := 0) (n := 10) (fun j hj => by rw [(hcd j hj).2]; omega)
          omega
        have h2p : pl2 = 0 ∨ (pl2 ≠ 0 ∧ c (Tv z2 10) = 1) := by
          rcases hpl2 with h | h
          · exact Or.inl h
          · exact Or.inr ⟨by rw [h]; decide, hz2 h⟩
        rcases hsg with ⟨h3, rfl⟩ | ⟨h3, rfl⟩
        · rw [if_pos h3]
          refine l_ad10 (Y2 := c (Tv y2 10)) (Y2' := 0) hc fu hfu 0 pl2 x2 y2 z2 a3 a b cc dd f pl hpl x y z onP onQ sx sy sz' hz1 jP jQ sz2 h2p sa sb scc sdd ea' eb' (by rw [tc, c_sub hc, k2]) ?_ K
          rw [td, Int.one_mul, c_sub hc, k4]
        · rw [if_neg h3]
          refine l_ad10 (Y2 := -c (Tv y2 10)) (Y2' := 0) hc fu hfu 0 pl2 x2 y2 z2 a3 a b cc dd f pl hpl x y z onP (en_on onQ) sx sy sz' hz1 jP (jr_neg jQ) sz2 h2p sa sb scc sdd ea' eb' (by rw [tc, c_sub hc, k2]) ?_ K
          rw [td, c_sub hc, show -1 * Tv f4 10 = -Tv f4 10 from by omega, c_neg hc, k4]
          grind
      rcases hpl2 with h | h
      · refine ok_t h ?_
        refine ok_bd1 (v_Cu_multiply_e10 fu (by omega) z2 f3 (sz_m sz2 sz2 (by decide) (by decide) (by decide))) (fun f5 h5 => ?_)
        refine ok_bd1 (v_Cu_multiply fu (by omega) x f5 u0 (sz_m sx h5.2 (by decide) (by decide) (by decide))) (fun f6 h6 => ?_)
        refine ok_bd1 (v_Cu_multiply_e20 fu (by omega) z2 f5 (sz_m h5.2 sz2 (by decide) (by decide) (by decide))) (fun f7 h7 => ?_)
        refine ok_bd1 (v_Cu_multiply fu (by omega) y f7 u1 (sz_m sy h7.2 (by decide) (by decide) (by decide))) (fun f8 h8 => ?_)
        have k5 : c (Tv f5 10) = c (Tv z2 10) * c (Tv z2 10) := by rw [c_cong hc h5.1, c_mul hc]
        have k7 : c (Tv f7 10) = c (Tv z2 10) * c (Tv z2 10) * c (Tv z2 10) := by rw [c_cong hc h7.1, c_mul hc, k5]
        refine go f6 f8 f7 (sz_w h6.2 (by decide)) (sz_w h8.2 (by decide)) ?_ ?_
        · rw [c_cong hc h6.1, c_mul hc, k5]
        · rw [c_cong hc h8.1, c_mul hc, k7]
      · refine ok_f (by rw [h]; decide) ?_
        refine ok_gd (by decide) (ok_bnd (ok_gd (by decide) (ok_bnd ?_)))
        refine go _ _ f3 (sz_c cpy10 sx) (sz_c cpy10 sy) ?_ ?_
        · rw [Tv_c cpy10, hz2 h]; grind
        · rw [Tv_c cpy10, hz2 h]; grind
    · refine ok_f (by rw [h1]; decide) ?_
      refine ok_bd5 (v_Po_become fu 0 pl2 (Or.inl rfl) hpl2 x2 y2 z2 no pl x y z) (fun e11 e12 f13 f14 f15 hb => ?_)
      obtain ⟨b1, b2, b3, b4, b5⟩ := hb
      replace b1 : e11 = 0 := b1
      replace b2 : e12 = pl2 := b2
      replace b3 : ∀ j, j < 10 → f13 j = x2 j := b3
      replace b4 : ∀ j, j < 10 → f14 j = y2 j := b4
      replace b5 : ∀ j, j < 10 → f15 j = z2 j := b5
      subst b1
      subst b2
      subst hr
      by_cases h3 : a3 = 0
      · refine ok_t h3 (ok_some (Or.inl ⟨rfl, ?_⟩))
        rw [if_pos h3, ea_n0]
        exact jI_c b3 b4 b5 ⟨hpl2, Or.inl ⟨rfl, sx2, sy2, sz2, hz2, jQ⟩⟩
      · refine ok_f h3 ?_
        refine ok_bd1 (v_Cu_negate fu hfu f14 (sz_c b4 sy2) (by decide)) (fun f16 h16 => ok_some (Or.inl ⟨rfl, ?_⟩))
        rw [if_neg h3, ea_n0]
        refine ⟨hpl2, Or.inl ⟨rfl, sz_c b3 sx2, h16.2, sz_c b5 sz2, ?_, ?_⟩⟩
        · show e12 = 1 → c (Tv f15 10) = 1
          rw [Tv_c b5]
          exact hz2
        · show jr (c (Tv f13 10)) (c (Tv f16 10)) (c (Tv f15 10)) (en Q)
          rw [Tv_c b3, Tv_c b5, h16.1, Tv_c b4, c_neg hc]
          exact jr_neg jQ
  · exact absurd h1 (by decide)
