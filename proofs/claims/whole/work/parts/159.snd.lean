-- the class: whether a block is sound; inputs, locks, heights
def dsQ (w : Nat → List Int32) (j m : Nat) : Prop := w j ≠ w m
def inQ (c : Prop) (w : Nat → List Int32) (m : Nat) : Prop := (isN (w m) ↔ c) ∧ fa (dsQ w m) 0 m
set_option maxHeartbeats 400000 in
theorem l_in45 (fu : Nat) (hfu : 400 ≤ fu) (i1 i2 i3 i4 i5 : Int32) (nr : Nat) (hn : nr < 2 ^ 30) (g u4 u6 : Nat → Int32) (k7 : Int32 → Int32 → Option Int32) {t k l j : Nat} {w : Nat → List Int32} {at' : Nat → Nat} (hk : k + l ≤ 73) (hj : j < l) (hv : ∀ m, m < l → u6 (k + m) = nI (at' m) ∧ at' m + 36 ≤ nr ∧ w m = bl g (at' m) 36) (P : Int32 → Prop) : ∀ r o n, o + r = j → r < n → (fa (dsQ w j) o j → ok (k7 (nI t) (nI (k + (j + 1)))) P) → (¬ fa (dsQ w j) o j → P 0) → ok (x_La_inputsAreSound_45 fu i1 i2 i3 i4 i5 nr g u4 u6 k7 n (nI t) (nI (k + j)) (nI (k + o))) P := by
  intro r
  induction r with
  | zero =>
    intro o n hi hn' h1 h0
    obtain ⟨n, rfl⟩ : ∃ m, n = m + 1 := ⟨n - 1, by omega⟩
    show ok (xb_La_inputsAreSound_45 fu i1 i2 i3 i4 i5 nr g u4 u6 k7 (x_La_inputsAreSound_45 fu i1 i2 i3 i4 i5 nr g u4 u6 k7 n) (nI t) (nI (k + j)) (nI (k + o))) _
    unfold xb_La_inputsAreSound_45
    refine ok_t ((nI_leI (by omega) (by omega)).mpr (by omega)) (ok_bn (nI_1 _) ?_)
    exact h1 (fa_e (by omega))
  | succ r ih =>
    intro o n hi hn' h1 h0
    obtain ⟨n, rfl⟩ : ∃ m, n = m + 1 := ⟨n - 1, by omega⟩
    show ok (xb_La_inputsAreSound_45 fu i1 i2 i3 i4 i5 nr g u4 u6 k7 (x_La_inputsAreSound_45 fu i1 i2 i3 i4 i5 nr g u4 u6 k7 n) (nI t) (nI (k + j)) (nI (k + o))) _
    unfold xb_La_inputsAreSound_45
    obtain ⟨a1, a2, a3⟩ := hv j hj
    obtain ⟨b1, b2, b3⟩ := hv o (by omega)
    refine ok_f (fun e => by have := (nI_leI (by omega) (by omega)).mp e; omega) (ok_gd (inb_nI (by omega) (by decide)) (ok_bn (by rw [nI_clamp (n := k + j) (by omega), a1]) (ok_gd (inb_nI (by omega) (by decide)) (ok_bn (by rw [nI_clamp (n := k + o) (by omega), b1]) ?_))))
    refine ok_bd1 (v_K_same_e fu nr g (l := 36) a2 b2 hn (by omega)) (fun x hx => ?_)
    rw [← a3, ← b3] at hx
    refine ok_tf hx (fun q => ok_bn (nI_1 _) ?_) (fun q => ok_some (h0 fun e => ?_))
    · have s := fa_s (Q := dsQ w j) (j := o) (n := j) q
      exact ih (o + 1) n (by omega) (by omega) (fun e => h1 (s.mp e)) (fun e => h0 fun z => e (s.mpr z))
    · exact fa_n (Q := dsQ w j) (j := o) (n := j) (by omega) (fun z => z q) e
set_option maxHeartbeats 400000 in
theorem tf_iff {P Q : Prop} {x y : Int32} (hx : tf P x) (hy : tf Q y) : x = y ↔ (P ↔ Q) := by
  rcases hx with ⟨h1, h2⟩ | ⟨h1, h2⟩ <;> rcases hy with ⟨h3, h4⟩ | ⟨h3, h4⟩ <;> subst h2 <;> subst h4
  · exact ⟨fun _ => ⟨fun _ => h3, fun _ => h1⟩, fun _ => rfl⟩
  · exact ⟨fun e => absurd e (by decide), fun e => absurd (e.mp h1) h3⟩
  · exact ⟨fun e => absurd e (by decide), fun e => absurd (e.mpr h3) h1⟩
  · exact ⟨fun _ => ⟨fun e => absurd e h1, fun e => absurd e h3⟩, fun _ => rfl⟩
set_option maxHeartbeats 400000 in
theorem l_in33 (fu : Nat) (hfu : 400 ≤ fu) (i1 i2 i3 i4 i5 : Int32) (nr : Nat) (hn : nr < 2 ^ 30) (g u4 u6 : Nat → Int32) (k7 : Int32 → Int32 → Option Int32) {t k l j : Nat} {w : Nat → List Int32} {at' : Nat → Nat} (ht : t < 300) (h4 : u4 t = nI k) (hk : k + l ≤ 73) (hj : j < l) (hv : ∀ m, m < l → u6 (k + m) = nI (at' m) ∧ at' m + 36 ≤ nr ∧ w m = bl g (at' m) 36) (P : Int32 → Prop) {c : Prop} {y0 y1 : Int32} (hy1 : tf (isN (w j)) y1) (hy0 : tf c y0) (h1 : inQ c w j → ok (k7 (nI t) (nI (k + (j + 1)))) P) (h0 : ¬ inQ c w j → P 0) : ok (xb_La_inputsAreSound_33 fu i1 i2 i3 i4 i5 nr g u4 u6 k7 (nI t) (nI (k + j)) y0 y1) P := by
  unfold xb_La_inputsAreSound_33
  have e := tf_iff hy1 hy0
  by_cases q : isN (w j) ↔ c
  · refine ok_t (e.mpr q) (ok_gd (inb_nI (by omega) (by decide)) (ok_bn (by rw [nI_clamp (n := t) (by omega), h4]) ?_))
    exact l_in45 fu hfu i1 i2 i3 i4 i5 nr hn g u4 u6 k7 hk hj hv P j 0 fu (by omega) (by omega) (fun z => h1 ⟨q, z⟩) (fun z => h0 fun x => z x.2)
  · exact ok_f (fun z => q (e.mp z)) (ok_some (h0 fun x => q x.1))
set_option maxHeartbeats 400000 in
theorem l_in7 (fu : Nat) (hfu : 400 ≤ fu) (i1 i2 i3 i4 i5 : Int32) (nr : Nat) (hn : nr < 2 ^ 30) (g u4 u6 : Nat → Int32) {t k l : Nat} {w : Nat → List Int32} {at' : Nat → Nat} (ht : t < 300) (h4 : u4 t = nI k) (h4' : u4 (t + 1) = nI (k + l)) (hk : k + l ≤ 73) (hv : ∀ m, m < l → u6 (k + m) = nI (at' m) ∧ at' m + 36 ≤ nr ∧ w m = bl g (at' m) 36) : ∀ r j n, j + r = l → r < n → ok (x_La_inputsAreSound_7 fu i1 i2 i3 i4 i5 nr g u4 u6 n (nI t) (nI (k + j))) (tf (0 < l ∧ fa (inQ (t = 0) w) j l)) := by
  intro r
  induction r with
  | zero =>
    intro j n hi hn'
    obtain ⟨n, rfl⟩ : ∃ m, n = m + 1 := ⟨n - 1, by omega⟩
    show ok (xb_La_inputsAreSound_7 fu i1 i2 i3 i4 i5 nr g u4 u6 (x_La_inputsAreSound_7 fu i1 i2 i3 i4 i5 nr g u4 u6 n) (nI t) (nI (k + j))) _
    unfold xb_La_inputsAreSound_7
    refine ok_bn (nI_1 t) (ok_gd (inb_nI (by omega) (by decide)) (ok_bn (by rw [nI_clamp (n := t + 1) (by omega), h4']) (ok_t ((nI_leI (by omega) (by omega)).mpr (by omega)) ?_)))
    refine ok_gd (inb_nI (by omega) (by decide)) (ok_bn (by rw [nI_clamp (n := t) (by omega), h4]) (ok_bn (nI_1 t) (ok_gd (inb_nI (by omega) (by decide)) (ok_bn (by rw [nI_clamp (n := t + 1) (by omega), h4']) ?_))))
    by_cases q : l = 0
    · refine ok_t ((nI_leI (by omega) (by omega)).mpr (by omega)) (ok_some (tf_0 fun e => ?_))
      have := e.1
      omega
    · exact ok_f (fun e => by have := (nI_leI (by omega) (by omega)).mp e; omega) (ok_some (tf_1 ⟨by omega, fa_e (by omega)⟩))
  | succ r ih =>
    intro j n hi hn'
    obtain ⟨n, rfl⟩ : ∃ m, n = m + 1 := ⟨n - 1, by omega⟩
    show ok (xb_La_inputsAreSound_7 fu i1 i2 i3 i4 i5 nr g u4 u6 (x_La_inputsAreSound_7 fu i1 i2 i3 i4 i5 nr g u4 u6 n) (nI t) (nI (k + j))) _
    unfold xb_La_inputsAreSound_7
    refine ok_bn (nI_1 t) (ok_gd (inb_nI (by omega) (by decide)) (ok_bn (by rw [nI_clamp (n := t + 1) (by omega), h4']) (ok_f (fun e => by have := (nI_leI (by omega) (by omega)).mp e; omega) ?_)))
    obtain ⟨q1, q2, q3⟩ := hv j (by omega)
    refine ok_bd1 (v_cb fu hfu i1 i2 i3 i4 i5 nr hn g u6 (m := k + j) (by omega) q1 q2) (fun y hy => ?_)
    rw [← q3] at hy
    have A1 : inQ (t = 0) w j → ok (x_La_inputsAreSound_7 fu i1 i2 i3 i4 i5 nr g u4 u6 n (nI t) (nI (k + (j + 1)))) (tf (0 < l ∧ fa (inQ (t = 0) w) j l)) := fun z => by
      refine ok_mono (ih (j + 1) n (by omega) (by omega)) (fun x hx => tf_c ?_ hx)
      rw [fa_s (Q := inQ (t = 0) w) (j := j) (n := l) z]
    have A0 : ¬ inQ (t = 0) w j → tf (0 < l ∧ fa (inQ (t = 0) w) j l) 0 := fun z => tf_0 fun e => fa_n (Q := inQ (t = 0) w) (j := j) (n := l) (by omega) z e.2
    by_cases c : t = 0
    · refine ok_t (by rw [c]; rfl) ?_
      exact l_in33 fu hfu i1 i2 i3 i4 i5 nr hn g u4 u6 _ ht h4 hk (by omega) hv _ hy (tf_1 c) A1 A0
    · refine ok_f (fun e => c ((nI_eq (b := 0) (by omega) (by omega)).mp e)) ?_
      exact l_in33 fu hfu i1 i2 i3 i4 i5 nr hn g u4 u6 _ ht h4 hk (by omega) hv _ hy (tf_0 c) A1 A0
set_option maxHeartbeats 400000 in
theorem v_in (fu : Nat) (hfu : 400 ≤ fu) (i1 i2 i3 i4 i5 : Int32) (nr : Nat) (hn : nr < 2 ^ 30) (g u4 u6 : Nat → Int32) {t k l : Nat} {w : Nat → List Int32} {at' : Nat → Nat} (ht : t < 300) (h4 : u4 t = nI k) (h4' : u4 (t + 1) = nI (k + l)) (hk : k + l ≤ 73) (hv : ∀ m, m < l → u6 (k + m) = nI (at' m) ∧ at' m + 36 ≤ nr ∧ w m = bl g (at' m) 36) : ok (x_La_inputsAreSound fu i1 i2 i3 i4 i5 nr g u4 u6 (nI t)) (tf (0 < l ∧ fa (inQ (t = 0) w) 0 l)) := by
  unfold x_La_inputsAreSound
  refine ok_gd (inb_nI (by omega) (by decide)) (ok_bn (by rw [nI_clamp (n := t) (by omega), h4]) ?_)
  exact l_in7 fu hfu i1 i2 i3 i4 i5 nr hn g u4 u6 ht h4 h4' hk hv l 0 fu (by omega) (by omega)
def sqQ (s : Nat → Nat) (m : Nat) : Prop := s m = 4294967295
set_option maxHeartbeats 400000 in
theorem l_fi65 (fu : Nat) (i1 i2 i3 i4 i5 : Int32) (nr : Nat) (hn : nr < 2 ^ 30) (g u3 u4 u8 : Nat → Int32) {t k l : Nat} {s at' : Nat → Nat} (ht : t < 300) (h4' : u4 (t + 1) = nI (k + l)) (hk : k + l ≤ 73) (hv : ∀ m, m < l → u8 (k + m) = nI (at' m) ∧ at' m + 4 ≤ nr ∧ s m = leP g (at' m) 4) : ∀ r j n, j + r = l → r < n → ok (x_La_isFinal_65 fu i1 i2 i3 i4 i5 nr g u3 u4 u8 n (nI t) (nI (k + j))) (tf (fa (sqQ s) j l)) := by
  intro r
  induction r with
  | zero =>
    intro j n hi hn'
    obtain ⟨n, rfl⟩ : ∃ m, n = m + 1 := ⟨n - 1, by omega⟩
    show ok (xb_La_isFinal_65 fu i1 i2 i3 i4 i5 nr g u3 u4 u8 (x_La_isFinal_65 fu i1 i2 i3 i4 i5 nr g u3 u4 u8 n) (nI t) (nI (k + j))) _
    unfold xb_La_isFinal_65
    exact ok_bn (nI_1 t) (ok_gd (inb_nI (by omega) (by decide)) (ok_bn (by rw [nI_clamp (n := t + 1) (by omega), h4']) (ok_t ((nI_leI (by omega) (by omega)).mpr (by omega)) (ok_some (tf_1 (fa_e (by omega)))))))
  | succ r ih =>
    intro j n hi hn'
    obtain ⟨n, rfl⟩ : ∃ m, n = m + 1 := ⟨n - 1, by omega⟩
    show ok (xb_La_isFinal_65 fu i1 i2 i3 i4 i5 nr g u3 u4 u8 (x_La_isFinal_65 fu i1 i2 i3 i4 i5 nr g u3 u4 u8 n) (nI t) (nI (k + j))) _
    unfold xb_La_isFinal_65
    obtain ⟨q1, q2, q3⟩ := hv j (by omega)
    refine ok_bn (nI_1 t) (ok_gd (inb_nI (by omega) (by decide)) (ok_bn (by rw [nI_clamp (n := t + 1) (by omega), h4']) (ok_f (fun e => by have := (nI_leI (by omega) (by omega)).mp e; omega) (ok_gd (inb_nI (by omega) (by decide)) (ok_bn (by rw [nI_clamp (n := k + j) (by omega), q1]) ?_)))))
    refine ok_bd1 (ok_of (v_K_word fu nr (by omega) g q2) rfl) (fun x hx => ?_)
    subst hx
    rw [← q3, nI_m1]
    have b : s j < 2 ^ 32 := by rw [q3]; exact leP_lt g (at' j) 4
    by_cases q : s j = 4294967295
    · refine ok_t ((nI_eq32 b (by decide)).mpr q) (ok_bn (nI_1 _) ?_)
      exact ok_mono (ih (j + 1) n (by omega) (by omega)) (fun x hx => tf_c (fa_s (Q := sqQ s) (j := j) (n := l) q) hx)
    · exact ok_f (fun e => q ((nI_eq32 b (by decide)).mp e)) (ok_some (tf_0 (fa_n (by omega) q)))
def fiQ (L h tm : Nat) (sq : Prop) : Prop := L = 0 ∨ L < h ∨ (500000000 ≤ L ∧ L < tm) ∨ sq
set_option maxHeartbeats 400000 in
theorem v_fi (fu : Nat) (hfu : 400 ≤ fu) (i1 i2 i3 i4 i5 : Int32) (nr : Nat) (hn : nr < 2 ^ 30) (g u3 u4 u8 : Nat → Int32) {t k l e h tm : Nat} {s at' : Nat → Nat} (ht : t < 300) (h4 : u4 t = nI k) (h4' : u4 (t + 1) = nI (k + l)) (h3' : u3 (t + 1) = nI e) (he : 4 ≤ e ∧ e ≤ nr) (hk : k + l ≤ 73) (hv : ∀ m, m < l → u8 (k + m) = nI (at' m) ∧ at' m + 4 ≤ nr ∧ s m = leP g (at' m) 4) (hh : h < 2 ^ 31) (htm : tm < 2 ^ 32) : ok (x_La_isFinal fu i1 i2 i3 i4 i5 nr g u3 u4 u8 (nI t) (nI h) (lN tm)) (tf (fiQ (leP g (e - 4) 4) h tm (fa (sqQ s) 0 l))) := by
  unfold x_La_isFinal
  refine ok_bn (nI_1 t) (ok_gd (inb_nI (by omega) (by decide)) (ok_bn (by rw [nI_clamp (n := t + 1) (by omega), h3']) (ok_bn (e' := nI (e - 4)) ?_ ?_)))
  · have := nI_add (e - 4) 4
    rw [show e - 4 + 4 = e from by omega] at this
    rw [← this]
    exact Int32.add_sub_cancel _ _
  refine ok_bd1 (ok_of (v_K_word fu nr (by omega) g (o := e - 4) (by omega)) rfl) (fun x hx => ?_)
  subst hx
  have b := leP_lt g (e - 4) 4
  refine ok_bnd (ok_bn (by rw [l_mask, U_nI b]) ?_)
  generalize leP g (e - 4) 4 = L at b ⊢
  have e57 : ok (xb_La_isFinal_57 fu i1 i2 i3 i4 i5 nr g u3 u4 u8 (nI t)) (tf (fa (sqQ s) 0 l)) := by
    unfold xb_La_isFinal_57
    refine ok_gd (inb_nI (by omega) (by decide)) (ok_bn (by rw [nI_clamp (n := t) (by omega), h4]) ?_)
    exact l_fi65 fu i1 i2 i3 i4 i5 nr hn g u3 u4 u8 ht h4' hk hv l 0 fu (by omega) (by omega)
  by_cases c0 : L = 0
  · refine ok_t ((lg_0 _).1.mpr (by rw [lN_I (by omega)]; omega)) (ok_some (tf_1 (Or.inl c0)))
  refine ok_f (fun z => c0 (by have := (lg_0 _).1.mp z; rw [lN_I (by omega)] at this; omega)) ?_
  by_cases c1 : L < h
  · refine ok_t ((lg_lt _ _).mpr (by rw [iL hh, lN_I (by omega), lN_I (by omega)]; omega)) (ok_some (tf_1 (Or.inr (Or.inl c1))))
  refine ok_f (fun z => c1 (by have := (lg_lt _ _).mp z; rw [iL hh, lN_I (by omega), lN_I (by omega)] at this; omega)) ?_
  rw [show (500000000 : Int64) = lN 500000000 from rfl]
  by_cases c2 : L < 500000000
  · refine ok_t ((lg_lt _ _).mpr (by rw [lN_I (by omega), lN_I (by omega)]; omega)) (ok_mono e57 fun x hx => tf_c ⟨fun z => Or.inr (Or.inr (Or.inr z)), fun z => ?_⟩ hx)
    rcases z with z | z | z | z
    · exact absurd z c0
    · exact absurd z c1
    · omega
    · exact z
  refine ok_f (fun z => c2 (by have := (lg_lt _ _).mp z; rw [lN_I (by omega), lN_I (by omega)] at this; omega)) ?_
  by_cases c3 : L < tm
  · exact ok_f (fun z => by have := (lg_n _ _ (by omega) (by omega)).mp z; omega) (ok_some (tf_1 (Or.inr (Or.inr (Or.inl ⟨by omega, c3⟩)))))
  · refine ok_t ((lg_n _ _ (by omega) (by omega)).mpr (by omega)) (ok_mono e57 fun x hx => tf_c ⟨fun z => Or.inr (Or.inr (Or.inr z)), fun z => ?_⟩ hx)
    rcases z with z | z | z | z
    · exact absurd z c0
    · exact absurd z c1
    · exact absurd z.2 c3
    · exact z
