-- the reference's isSound
abbrev T4s : Type := Int32 × (Nat → Int32) × (Nat → Int32) × (Nat → Int32)
/-- what isSound may change -/
def i9 (U0 u0 u1 : Nat → Int32) : Prop := (∀ j, j ≠ 9 → u0 j = U0 j) ∧ ftB u1
def sQ (U0 : Nat → Int32) (S : Prop) (x : T4s) : Prop := tf S x.1 ∧ i9 U0 x.2.1 x.2.2.1
set_option maxHeartbeats 400000 in
theorem l_ht (fu : Nat) (st v10 v11 : Nat → Int32) {s h : Nat} (hs : s + 2 ≤ 103000) (u0 u1 u2 : Nat → Int32) {U0 : Nat → Int32} (hi : i9 U0 u0 u1) (h1 : u2 0 = nI 1) (h2 : u1 0 = nI h) (hst : ftB st) (hh : h < 128) (n : Nat) (hn : 2 ≤ n) : ok (x_M_isHeight_103 fu st v10 v11 n (nI s) (0 : Int32) u0 u1 u2) (sQ U0 (By (st (s + 1)) = h)) := by
  obtain ⟨n, rfl⟩ : ∃ m, n = m + 1 + 1 := ⟨n - 2, by omega⟩
  show ok (xb_M_isHeight_103 fu st v10 v11 (x_M_isHeight_103 fu st v10 v11 (n + 1)) (nI s) (0 : Int32) u0 u1 u2) _
  unfold xb_M_isHeight_103
  refine ok_bn (e' := nI 1) h1 (ok_f (by decide) (ok_bn (nI_1 s) (ok_bn (e' := nI (s + 1)) (Int32.add_zero _) (ok_gd (inb_nI (by omega) (by decide)) (ok_bn (by rw [nI_clamp (n := s + 1) (by omega)]) (ok_gd (by decide) (ok_bn (e' := nI h) h2 ?_)))))))
  have e := fit_By (hst (s + 1)) hh
  by_cases q : st (s + 1) = nI h
  · refine ok_t q (ok_bnd ?_)
    show ok (xb_M_isHeight_103 fu st v10 v11 (x_M_isHeight_103 fu st v10 v11 n) (nI s) (0 + 1) u0 u1 u2) _
    unfold xb_M_isHeight_103
    exact ok_bn (e' := nI 1) h1 (ok_t (by decide) (ok_some ⟨tf_1 (e.mpr q), hi⟩))
  · exact ok_f q (ok_some ⟨tf_0 fun z => q (e.mp z), hi⟩)
set_option maxHeartbeats 400000 in
theorem v_M_isHeight (fu : Nat) (hfu : 400 ≤ fu) (st v10 v11 : Nat → Int32) (hst : ftB st) {m s l h : Nat} (hm : m < 2600) (h10 : v10 m = nI s) (h11 : v11 m = nI l) (hs : s + l ≤ 103000) (hl : l ≤ 3000) (hh : h < 128) (u0 u1 u2 : Nat → Int32) {U0 : Nat → Int32} (hi : i9 U0 u0 u1) : ok (x_M_isHeight fu st v10 v11 (nI m) (nI h) u0 u1 u2) (sQ U0 (hgQ (bl st s l) h)) := by
  unfold x_M_isHeight
  have hib : inb (nI m) 2600 = true := inb_nI hm (by decide)
  rw [nI_clamp (n := m) (by omega), h10, h11]
  refine ok_gd hib (ok_bnd (ok_gd hib (ok_bnd ?_)))
  rw [show (2 : Int32) = nI 2 from rfl, show (100 : Int32) = nI 100 from rfl, show (16 : Int32) = nI 16 from rfl, show (80 : Int32) = nI 80 from rfl]
  by_cases c1 : l < 2
  · refine ok_t ((nI_ltI (by omega) (by omega)).mpr c1) (ok_some ⟨tf_0 fun e => ?_, hi⟩)
    have := e.1
    rw [bl_len] at this
    omega
  refine ok_f (fun e => c1 ((nI_ltI (by omega) (by omega)).mp e)) ?_
  by_cases c2 : l ≤ 100
  · refine ok_t ((nI_leI (by omega) (by omega)).mpr c2) ?_
    have g0 : (bl st s l).getD 0 0 = st s := bl_get st 0 l s 0 (by omega)
    have g1 : (bl st s l).getD 1 0 = st (s + 1) := bl_get st 0 l s 1 (by omega)
    have hB := By_lt (st s)
    have hB1 := By_lt (st (s + 1))
    by_cases c3 : 16 < h
    · refine ok_t ((nI_ltI (by omega) (by omega)).mpr c3) (ok_bnd (ok_bnd ?_))
      refine ok_bd3 (v_M_pushNumber fu (by omega) (v := (h : Int)) (by rw [iL (by omega), lN_I (by omega)]) (by omega) (d := 0) (by decide) (by rw [pk_us]; rfl)) (fun f5 f6 f7 hp => ?_)
      obtain ⟨p1, p2, p3⟩ := hp
      replace p1 : f5 = upd (upd u0 9 (0 : Int32)) 9 (nI (0 + 1)) := p1
      replace p2 : wr u1 f6 (256 * 0) (nb (h : Int)) := p2
      replace p3 : f7 = upd u2 0 (nI (nb (h : Int)).length) := p3
      rw [nb_small h hh c3] at p2 p3
      have e7 : f7 0 = nI 1 := by rw [p3, pk_us]; rfl
      have e6 : f6 0 = nI h := by
        have := p2.1
        replace this : [f6 0] = [nI h] := this
        exact (List.cons.inj this).1
      have hi' : i9 U0 f5 f6 := by
        refine ⟨fun j hj => ?_, p2.2.2 hi.2⟩
        rw [p1, pk_un hj, pk_un hj]
        exact hi.1 j hj
      refine ok_gd (inb_nI (by omega) (by decide)) (ok_bn (by rw [nI_clamp (n := s) (by omega)]) (ok_bn (e' := nI 1) e7 ?_))
      by_cases c4 : st s = nI 1
      · refine ok_t c4 (ok_bn (e' := nI 1) e7 (ok_bn (nI_1 1) (ok_t ((nI_leI (by omega) (by omega)).mpr (by omega)) ?_)))
        refine ok_mono (l_ht fu st v10 v11 (h := h) (by omega) f5 f6 f7 hi' e7 e6 hst hh fu (by omega)) (fun x hx => ⟨tf_c ?_ hx.1, hx.2⟩)
        constructor
        · intro z
          refine ⟨by rw [bl_len]; omega, by rw [bl_len]; omega, fun e => by omega, fun _ => ?_⟩
          rw [g0, g1]
          exact ⟨c4, z⟩
        · intro z
          have := (z.2.2.2 c3).2
          rw [g1] at this
          exact this
      · refine ok_f c4 (ok_some ⟨tf_0 fun e => c4 ?_, hi'⟩)
        rw [← g0]
        exact (e.2.2.2 c3).1
    · refine ok_f (fun e => c3 ((nI_ltI (by omega) (by omega)).mp e)) (ok_gd (inb_nI (by omega) (by omega)) (ok_bn (by rw [nI_clamp (n := s) (by omega)]) (ok_bn (and255 _) ?_)))
      rw [nI_add]
      by_cases c4 : By (st s) = 80 + h
      · refine ok_t ((nI_eq (by omega) (by omega)).mpr c4) (ok_some ⟨tf_1 ⟨by rw [bl_len]; omega, by rw [bl_len]; omega, fun _ => ?_, fun e => by omega⟩, hi⟩)
        rw [g0]
        exact c4
      · refine ok_f (fun e => c4 ((nI_eq (by omega) (by omega)).mp e)) (ok_some ⟨tf_0 fun e => c4 ?_, hi⟩)
        rw [← g0]
        exact e.2.2.1 (by omega)
  · refine ok_f (fun e => c2 ((nI_leI (by omega) (by omega)).mp e)) (ok_some ⟨tf_0 fun e => ?_, hi⟩)
    have := e.2.1
    rw [bl_len] at this
    exact c2 this
set_option maxHeartbeats 400000 in
theorem tf_and {P Q : Prop} {x y : Int32} (hx : tf P x) (hy : tf Q y) : tf (P ∧ Q) (x &&& y) := by
  rcases hx with ⟨h1, h2⟩ | ⟨h1, h2⟩ <;> rcases hy with ⟨h3, h4⟩ | ⟨h3, h4⟩ <;> subst h2 <;> subst h4
  · exact Or.inl ⟨⟨h1, h3⟩, by decide⟩
  · exact Or.inr ⟨fun z => h3 z.2, by decide⟩
  · exact Or.inr ⟨fun z => h1 z.1, by decide⟩
  · exact Or.inr ⟨fun z => h1 z.1, by decide⟩
set_option maxHeartbeats 400000 in
/-- the lock, as the reference asks it -/
theorem l_s353 (fu : Nat) (st v4 v5 v6 v7 v8 v9 v10 v11 v12 : Nat → Int32) (v14 : Nat → Int64) (v15 v16 : Nat → Int32) (k12 : Int32 → Int32 → Int32 → Int32 → Int32 → Int32 → (Nat → Int32) → (Nat → Int32) → (Nat → Int32) → Option (Int32 × (Nat → Int32) × (Nat → Int32) × (Nat → Int32))) {t0 m h tm c t L : Nat} {x9 : Int32} {SQ : Prop} (hx : tf SQ x9) (ht : t < 2200) (h8 : v8 t = nI L) (hL : L < 2 ^ 32) (hh : h < 128) (htm : tm < 2 ^ 32) (u0 u1 u2 : Nat → Int32) (Q : T4s → Prop) (h1 : fiQ L h tm SQ → ok (k12 (nI t0) (nI m) (nI h) (nI tm) (nI c) (nI (t + 1)) u0 u1 u2) Q) (h0 : ¬ fiQ L h tm SQ → Q (0, u0, u1, u2)) : ok (xb_M_isSound_353 fu st v4 v5 v6 v7 v8 v9 v10 v11 v12 v14 v15 v16 k12 (nI t0) (nI m) (nI h) (nI tm) (nI c) (nI t) x9 u0 u1 u2) Q := by
  unfold xb_M_isSound_353
  have e8 : ok (xb_M_isSound_408 fu st v4 v5 v6 v7 v8 v9 v10 v11 v12 v14 v15 v16 k12 (nI t0) (nI m) (nI h) (nI tm) (nI c) (nI t) u0 u1 u2) Q ↔ ok (k12 (nI t0) (nI m) (nI h) (nI tm) (nI c) (nI (t + 1)) u0 u1 u2) Q := by
    unfold xb_M_isSound_408
    rw [bnd_q, nI_1]
  refine ok_gd (inb_nI ht (by decide)) (ok_bn (by rw [nI_clamp (n := t) (by omega), h8]) (ok_bnd (ok_bn (by rw [l_mask, U_nI hL]) ?_)))
  by_cases c0 : L = 0
  · exact ok_t ((lg_0 _).1.mpr (by rw [lN_I (by omega)]; omega)) (e8.mpr (h1 (Or.inl c0)))
  refine ok_f (fun z => c0 (by have := (lg_0 _).1.mp z; rw [lN_I (by omega)] at this; omega)) ?_
  refine ok_tf hx (fun q => ?_) (fun q => e8.mpr (h1 (Or.inr (Or.inr (Or.inr q)))))
  rw [show (500000000 : Int64) = lN 500000000 from rfl]
  by_cases c2 : 500000000 ≤ L
  · refine ok_t ((lg_n _ _ (by omega) (by omega)).mpr c2) (ok_bnd ?_)
    rw [l_mask, U_nI htm]
    unfold xb_M_isSound_402
    by_cases c3 : L < tm
    · exact ok_t ((lg_lt _ _).mpr (by rw [lN_I (by omega), lN_I (by omega)]; omega)) (e8.mpr (h1 (Or.inr (Or.inr (Or.inl ⟨c2, c3⟩)))))
    · refine ok_f (fun z => c3 (by have := (lg_lt _ _).mp z; rw [lN_I (by omega), lN_I (by omega)] at this; omega)) (ok_some (h0 fun z => ?_))
      rcases z with z | z | z | z
      · exact c0 z
      · omega
      · exact c3 z.2
      · exact q z
  · refine ok_f (fun z => c2 ((lg_n _ _ (by omega) (by omega)).mp z)) ?_
    rw [iL (by omega)]
    unfold xb_M_isSound_402
    by_cases c3 : L < h
    · exact ok_t ((lg_lt _ _).mpr (by rw [lN_I (by omega), lN_I (by omega)]; omega)) (e8.mpr (h1 (Or.inr (Or.inl c3))))
    · refine ok_f (fun z => c3 (by have := (lg_lt _ _).mp z; rw [lN_I (by omega), lN_I (by omega)] at this; omega)) (ok_some (h0 fun z => ?_))
      rcases z with z | z | z | z
      · exact c0 z
      · exact c3 z
      · exact c2 z.1
      · exact q z
set_option maxHeartbeats 400000 in
/-- one input, behind the look at those before it -/
theorem l_s264 (fu : Nat) (hfu : 4000 ≤ fu) (st v4 v5 v6 v7 v8 v9 v10 v11 v12 : Nat → Int32) (v14 : Nat → Int64) (v15 v16 : Nat → Int32) (k12 : Int32 → Int32 → Int32 → Int32 → Int32 → Int32 → (Nat → Int32) → (Nat → Int32) → (Nat → Int32) → Option (Int32 × (Nat → Int32) × (Nat → Int32) × (Nat → Int32))) (k179 : Int32 → Int32 → Int32 → Int32 → Int32 → Int32 → Int32 → Int32 → (Nat → Int32) → (Nat → Int32) → (Nat → Int32) → Option (Int32 × (Nat → Int32) × (Nat → Int32) × (Nat → Int32))) {t0 m h tm c t i j s l sq : Nat} {x9 y0 y1 : Int32} {SQ A B : Prop} (hx : tf SQ x9) (hy1 : tf A y1) (hy0 : tf B y0) (hi : i + j < 2600) (h10 : v10 (i + j) = nI s) (h11 : v11 (i + j) = nI l) (h12 : v12 (i + j) = nI sq) (hsq : sq < 2 ^ 32) (hs : s + l ≤ 103000) (hl : l ≤ 3001) (u0 u1 u2 : Nat → Int32) (Q : T4s → Prop) (h1 : (A ↔ B) → ∀ x9', tf (SQ ∧ sq = 4294967295) x9' → ok (k179 (nI t0) (nI m) (nI h) (nI tm) (nI (c + sgK (bl st s l))) (nI t) x9' (nI (i + (j + 1))) u0 u1 u2) Q) (h0 : ¬ (A ↔ B) → Q (0, u0, u1, u2)) : ok (xb_M_isSound_264 fu st v4 v5 v6 v7 v8 v9 v10 v11 v12 v14 v15 v16 k12 k179 (nI t0) (nI m) (nI h) (nI tm) (nI c) (nI t) x9 (nI (i + j)) y0 y1 u0 u1 u2) Q := by
  unfold xb_M_isSound_264
  have e := tf_iff hy1 hy0
  have hib : inb (nI (i + j)) 2600 = true := inb_nI hi (by decide)
  by_cases q : A ↔ B
  · rw [nI_clamp (n := i + j) (by omega), h10, h11, h12]
    refine ok_t (e.mpr q) (ok_gd hib (ok_bnd (ok_gd hib (ok_bnd ?_))))
    refine ok_bd1 (v_M_sigsOf fu hfu u0 st hs hl) (fun x hx' => ?_)
    subst hx'
    refine ok_bn (nI_add _ _) (ok_gd hib (ok_bnd ?_))
    have h310 : ∀ y : Int32, tf (sq = 4294967295) y → ok (xb_M_isSound_310 fu st v4 v5 v6 v7 v8 v9 v10 v11 v12 v14 v15 v16 k12 k179 (nI t0) (nI m) (nI h) (nI tm) (nI (c + sgK (bl st s l))) (nI t) (nI (i + j)) y x9 u0 u1 u2) Q := fun y hy => by
      unfold xb_M_isSound_310
      refine ok_bnd (ok_bn (nI_1 _) ?_)
      exact h1 q _ (tf_and hx hy)
    rw [nI_m1]
    by_cases c5 : sq = 4294967295
    · exact ok_t ((nI_eq32 hsq (by decide)).mpr c5) (h310 1 (tf_1 c5))
    · exact ok_f (fun z => c5 ((nI_eq32 hsq (by decide)).mp z)) (h310 0 (tf_0 c5))
  · exact ok_f (fun z => q (e.mp z)) (ok_some (h0 q))
def ipQ (B : Prop) (w : Nat → List Int32) (ln : Nat → Nat) (j : Nat) : Prop := inQ B w j ∧ ln j ≤ 1000
set_option maxHeartbeats 400000 in
theorem l_s208 (fu : Nat) (hfu : 4000 ≤ fu) (st v4 v5 v6 v7 v8 v9 v10 v11 v12 : Nat → Int32) (v14 : Nat → Int64) (v15 v16 : Nat → Int32) (k12 : Int32 → Int32 → Int32 → Int32 → Int32 → Int32 → (Nat → Int32) → (Nat → Int32) → (Nat → Int32) → Option (Int32 × (Nat → Int32) × (Nat → Int32) × (Nat → Int32))) (k179 : Int32 → Int32 → Int32 → Int32 → Int32 → Int32 → Int32 → Int32 → (Nat → Int32) → (Nat → Int32) → (Nat → Int32) → Option (Int32 × (Nat → Int32) × (Nat → Int32) × (Nat → Int32))) {t0 m h tm c t i l j : Nat} {at' sc ln sq : Nat → Nat} {w : Nat → List Int32} {x9 : Int32} {SQ : Prop} (hx : tf SQ x9) (hil : i + l ≤ 2600) (hj : j < l) (ht : t < 2 ^ 20) (ht0 : t0 < 2 ^ 20)
    (hv : ∀ k, k < l → v9 (i + k) = nI (at' k) ∧ v10 (i + k) = nI (sc k) ∧ v11 (i + k) = nI (ln k) ∧ v12 (i + k) = nI (sq k) ∧ at' k + 36 ≤ 103000 ∧ sc k + ln k ≤ 103000 ∧ ln k ≤ 3000 ∧ sq k < 2 ^ 32 ∧ w k = bl st (at' k) 36)
    (u0 u1 u2 : Nat → Int32) (Q : T4s → Prop) (h1 : ipQ (t = t0) w ln j → ∀ x9', tf (SQ ∧ sq j = 4294967295) x9' → ok (k179 (nI t0) (nI m) (nI h) (nI tm) (nI (c + sgK (bl st (sc j) (ln j)))) (nI t) x9' (nI (i + (j + 1))) u0 u1 u2) Q) (h0 : ¬ ipQ (t = t0) w ln j → Q (0, u0, u1, u2)) : ∀ r q n, q + r = j → r < n → (fa (dsQ w j) q j → fa (dsQ w j) 0 j) → ok (x_M_isSound_208 fu st v4 v5 v6 v7 v8 v9 v10 v11 v12 v14 v15 v16 k12 k179 n (nI t0) (nI m) (nI h) (nI tm) (nI c) (nI t) x9 (nI (i + j)) (nI (i + q)) u0 u1 u2) Q := by
  intro r
  obtain ⟨a1, a2, a3, a4, a5, a6, a7, a8, a9⟩ := hv j hj
  have hib : inb (nI (i + j)) 2600 = true := inb_nI (by omega) (by decide)
  induction r with
  | zero =>
    intro q n hq hn hf
    obtain ⟨n, rfl⟩ : ∃ m, n = m + 1 := ⟨n - 1, by omega⟩
    show ok (xb_M_isSound_208 fu st v4 v5 v6 v7 v8 v9 v10 v11 v12 v14 v15 v16 k12 k179 (x_M_isSound_208 fu st v4 v5 v6 v7 v8 v9 v10 v11 v12 v14 v15 v16 k12 k179 n) (nI t0) (nI m) (nI h) (nI tm) (nI c) (nI t) x9 (nI (i + j)) (nI (i + q)) u0 u1 u2) _
    unfold xb_M_isSound_208
    refine ok_t ((nI_leI (by omega) (by omega)).mpr (by omega)) (ok_gd hib (ok_bn (by rw [nI_clamp (n := i + j) (by omega), a3]) ?_))
    have hK : (1000 : Int32) < nI (ln j) ↔ 1000 < ln j := nI_ltI (a := 1000) (b := ln j) (by decide) (by omega)
    by_cases q1 : 1000 < ln j
    · exact ok_t (hK.mpr q1) (ok_some (h0 fun z => by have := z.2; omega))
    refine ok_f (fun z => q1 (hK.mp z)) ?_
    refine ok_bd1 (v_M_isNull fu (by omega) u0 st v9 (m := i + j) (by omega) a1 a5) (fun y hy => ?_)
    rw [← a9] at hy
    have D := hf (fa_e (by omega))
    have H1 : (isN (w j) ↔ t = t0) → ∀ x9', tf (SQ ∧ sq j = 4294967295) x9' → ok (k179 (nI t0) (nI m) (nI h) (nI tm) (nI (c + sgK (bl st (sc j) (ln j)))) (nI t) x9' (nI (i + (j + 1))) u0 u1 u2) Q := fun z => h1 ⟨⟨z, D⟩, by omega⟩
    have H0 : ¬ (isN (w j) ↔ t = t0) → Q (0, u0, u1, u2) := fun z => h0 fun y => z y.1.1
    by_cases q2 : t = t0
    · exact ok_t (by rw [q2]) (l_s264 fu hfu st v4 v5 v6 v7 v8 v9 v10 v11 v12 v14 v15 v16 k12 k179 hx hy (tf_1 q2) (by omega) a2 a3 a4 a8 a6 (by omega) u0 u1 u2 Q H1 H0)
    · exact ok_f (fun z => q2 ((nI_eq (by omega) (by omega)).mp z)) (l_s264 fu hfu st v4 v5 v6 v7 v8 v9 v10 v11 v12 v14 v15 v16 k12 k179 hx hy (tf_0 q2) (by omega) a2 a3 a4 a8 a6 (by omega) u0 u1 u2 Q H1 H0)
  | succ r ih =>
    intro q n hq hn hf
    obtain ⟨n, rfl⟩ : ∃ m, n = m + 1 := ⟨n - 1, by omega⟩
    show ok (xb_M_isSound_208 fu st v4 v5 v6 v7 v8 v9 v10 v11 v12 v14 v15 v16 k12 k179 (x_M_isSound_208 fu st v4 v5 v6 v7 v8 v9 v10 v11 v12 v14 v15 v16 k12 k179 n) (nI t0) (nI m) (nI h) (nI tm) (nI c) (nI t) x9 (nI (i + j)) (nI (i + q)) u0 u1 u2) _
    unfold xb_M_isSound_208
    obtain ⟨b1, -, -, -, b5, -, -, -, b9⟩ := hv q (by omega)
    refine ok_f (fun z => by have := (nI_leI (by omega) (by omega)).mp z; omega) ?_
    refine ok_bd1 (v_M_isAlike fu (by omega) u0 st v9 (m := i + j) (k := i + q) (by omega) (by omega) a1 b1 a5 b5) (fun y hy => ?_)
    rw [← a9, ← b9] at hy
    refine ok_tf hy (fun z => ok_bn (nI_1 _) ?_) (fun z => ok_some (h0 fun y => ?_))
    · exact ih (q + 1) n (by omega) (by omega) (fun x => hf ((fa_s (Q := dsQ w j) (j := q) (n := j) z).mp x))
    · exact y.1.2 q (Nat.zero_le _) (by omega) z
