-- how a block lies in its bytes
abbrev In3 : Type := Nat × Nat × Nat
/-- COUNT at a: the number, and where it ends -/
def cnt (p : Nat → Int32) (E a : Nat) : Option (Nat × Nat) :=
  if E ≤ a then none else if By (p a) < 253 then some (By (p a), a + 1)
  else if By (p a) = 253 then (if a + 3 ≤ E ∧ 253 ≤ leP p (a + 1) 2 then some (leP p (a + 1) 2, a + 3) else none)
  else if By (p a) = 254 then (if a + 5 ≤ E ∧ 65536 ≤ leP p (a + 1) 4 then some (leP p (a + 1) 4, a + 5) else none) else none
set_option maxHeartbeats 400000 in
theorem cnt_b {p : Nat → Int32} {E a v b : Nat} (h : cnt p E a = some (v, b)) : a < b ∧ b ≤ E ∧ b ≤ a + 5 ∧ v < 2 ^ 32 := by
  unfold cnt at h
  by_cases g : E ≤ a
  · rw [if_pos g] at h; exact absurd h (by simp)
  rw [if_neg g] at h
  have hB := By_lt (p a)
  by_cases g1 : By (p a) < 253
  · rw [if_pos g1] at h
    have h := Option.some.inj h
    have e1 : v = By (p a) := (congrArg Prod.fst h).symm
    have e2 : b = a + 1 := (congrArg Prod.snd h).symm
    omega
  rw [if_neg g1] at h
  by_cases g2 : By (p a) = 253
  · rw [if_pos g2] at h
    by_cases g3 : a + 3 ≤ E ∧ 253 ≤ leP p (a + 1) 2
    · rw [if_pos g3] at h
      have h := Option.some.inj h
      have e1 : v = leP p (a + 1) 2 := (congrArg Prod.fst h).symm
      have e2 : b = a + 3 := (congrArg Prod.snd h).symm
      have := leP_lt p (a + 1) 2
      omega
    · rw [if_neg g3] at h; exact absurd h (by simp)
  rw [if_neg g2] at h
  by_cases g4 : By (p a) = 254
  · rw [if_pos g4] at h
    by_cases g3 : a + 5 ≤ E ∧ 65536 ≤ leP p (a + 1) 4
    · rw [if_pos g3] at h
      have h := Option.some.inj h
      have e1 : v = leP p (a + 1) 4 := (congrArg Prod.fst h).symm
      have e2 : b = a + 5 := (congrArg Prod.snd h).symm
      have := leP_lt p (a + 1) 4
      omega
    · rw [if_neg g3] at h; exact absurd h (by simp)
  · rw [if_neg g4] at h; exact absurd h (by simp)
def pIn (p : Nat → Int32) (E a : Nat) : Option (Nat × Nat) := (cnt p E (a + 36)).bind fun v => if v.2 + v.1 + 4 ≤ E then some (v.2, v.1) else none
def pOut (p : Nat → Int32) (E a : Nat) : Option (Nat × Nat) := (cnt p E (a + 8)).bind fun v => if v.2 + v.1 ≤ E then some (v.2, v.1) else none
set_option maxHeartbeats 400000 in
theorem pIn_b {p : Nat → Int32} {E a s l : Nat} (h : pIn p E a = some (s, l)) : cnt p E (a + 36) = some (l, s) ∧ a + 37 ≤ s ∧ s + l + 4 ≤ E := by
  unfold pIn at h
  obtain ⟨⟨v, b⟩, h1, h2⟩ := Option.bind_eq_some_iff.mp h
  have hb := cnt_b h1
  by_cases g : b + v + 4 ≤ E
  · replace h2 : (if b + v + 4 ≤ E then some (b, v) else none) = some (s, l) := h2
    rw [if_pos g] at h2
    have h2 := Option.some.inj h2
    have e1 : b = s := congrArg Prod.fst h2
    have e2 : v = l := congrArg Prod.snd h2
    subst e1 e2
    exact ⟨h1, by omega, g⟩
  · replace h2 : (if b + v + 4 ≤ E then some (b, v) else none) = some (s, l) := h2
    rw [if_neg g] at h2
    exact absurd h2 (by simp)
set_option maxHeartbeats 400000 in
theorem pOut_b {p : Nat → Int32} {E a s l : Nat} (h : pOut p E a = some (s, l)) : cnt p E (a + 8) = some (l, s) ∧ a + 9 ≤ s ∧ s + l ≤ E := by
  unfold pOut at h
  obtain ⟨⟨v, b⟩, h1, h2⟩ := Option.bind_eq_some_iff.mp h
  have hb := cnt_b h1
  replace h2 : (if b + v ≤ E then some (b, v) else none) = some (s, l) := h2
  by_cases g : b + v ≤ E
  · rw [if_pos g] at h2
    have h2 := Option.some.inj h2
    have e1 : b = s := congrArg Prod.fst h2
    have e2 : v = l := congrArg Prod.snd h2
    subst e1 e2
    exact ⟨h1, by omega, g⟩
  · rw [if_neg g] at h2
    exact absurd h2 (by simp)
/-- n things one after the other, each with a script and z bytes behind it -/
def pL (f : Nat → Option (Nat × Nat)) (z : Nat) : Nat → Nat → Option (List In3 × Nat)
  | 0, a => some ([], a)
  | n + 1, a => (f a).bind fun v => (pL f z n (v.1 + v.2 + z)).bind fun w => some ((a, v.1, v.2) :: w.1, w.2)
set_option maxHeartbeats 400000 in
theorem pL_b {f : Nat → Option (Nat × Nat)} {z m E : Nat} (hf : ∀ a s l, f a = some (s, l) → a + m ≤ s + l + z ∧ s + l + z ≤ E) : ∀ n a L b, pL f z n a = some (L, b) → L.length = n ∧ a + m * n ≤ b ∧ (a ≤ E → b ≤ E)
  | 0, a, L, b, h => by
    have h := Option.some.inj h
    have e1 : L = [] := (congrArg Prod.fst h).symm
    have e2 : b = a := (congrArg Prod.snd h).symm
    subst e1 e2
    exact ⟨rfl, by omega, fun q => q⟩
  | n + 1, a, L, b, h => by
    obtain ⟨⟨s, l⟩, h1, h2⟩ := Option.bind_eq_some_iff.mp h
    obtain ⟨⟨L', b'⟩, h3, h4⟩ := Option.bind_eq_some_iff.mp h2
    have h4 := Option.some.inj h4
    have e1 : (a, s, l) :: L' = L := congrArg Prod.fst h4
    have e2 : b' = b := congrArg Prod.snd h4
    subst e1 e2
    have ih := pL_b hf n _ _ _ h3
    have h5 := hf a s l h1
    refine ⟨by rw [List.length_cons, ih.1], ?_, fun _ => ih.2.2 h5.2⟩
    have h6 := ih.2.1
    replace h6 : s + l + z + m * n ≤ b' := h6
    rw [Nat.mul_succ]
    omega
-- the class reads COUNT
set_option maxHeartbeats 400000 in
theorem l_rc93 (fu : Nat) (i1 i2 i3 i4 : Int32) (nr : Nat) (hnr : nr < 2 ^ 30) (g : Nat → Int32) {b z : Nat} (hz : z = 2 ∨ z = 4) (hb : b + z ≤ nr) : ∀ k n v, k ≤ z → k < n → (∀ j, j < 2 ^ 1 → True) → v = leP (fun j => g (b + k + j)) 0 (z - k) → x_La_readCount_93 fu i1 i2 i3 i4 nr g n (nI z) (lN v) (nI k + (-1)) (nI b) = xb_La_readCount_151 fu i1 i2 i3 i4 nr g (lN (leP g b z)) (if z = 2 then (253 : Int32) else 65536) (lN (leP g b z)) (nI (b + z)) := by
  intro k
  induction k with
  | zero =>
    intro n v _ hn _ hv
    obtain ⟨n, rfl⟩ : ∃ m, n = m + 1 := ⟨n - 1, by omega⟩
    have e : v = leP g b z := by
      rw [hv, Nat.sub_zero]
      have : ∀ m, leP (fun j => g (b + 0 + j)) 0 m = leP g b m := by
        intro m
        induction m with
        | zero => rfl
        | succ m ih =>
          show leP (fun j => g (b + 0 + j)) 0 m + By (g (b + 0 + (0 + m))) * 2 ^ (8 * m) = leP g b m + By (g (b + m)) * 2 ^ (8 * m)
          rw [ih, Nat.add_zero, Nat.zero_add]
      exact this z
    show xb_La_readCount_93 fu i1 i2 i3 i4 nr g (x_La_readCount_93 fu i1 i2 i3 i4 nr g n) (nI z) (lN v) (nI 0 + (-1)) (nI b) = _
    unfold xb_La_readCount_93
    rw [if_pos (by decide), bnd_q, nI_add, e]
    rcases hz with rfl | rfl
    · rw [if_pos rfl]
      exact if_pos rfl
    · rw [if_neg (by decide), if_neg (by decide)]
  | succ k ih =>
    intro n v hk hn ht hv
    obtain ⟨n, rfl⟩ : ∃ m, n = m + 1 := ⟨n - 1, by omega⟩
    rw [pk_m1]
    show xb_La_readCount_93 fu i1 i2 i3 i4 nr g (x_La_readCount_93 fu i1 i2 i3 i4 nr g n) (nI z) (lN v) (nI k) (nI b) = _
    unfold xb_La_readCount_93
    have hB := By_lt (g (b + k))
    have hvl := leP_lt (fun j => g (b + (k + 1) + j)) 0 (z - (k + 1))
    rw [← hv] at hvl
    have hvl2 : v < 2 ^ 24 := Nat.lt_of_lt_of_le hvl (Nat.pow_le_pow_right (by decide) (by omega))
    rw [if_neg (nI_pos (by omega))]
    simp only [↓bnd_q]
    rw [nI_add, gd_t (inb_nI (by omega) (by omega)), nI_clamp (by omega), and255, iL (by omega), lN_shl ((8 : Int32).toInt64 &&& 63) (k := 8) (by decide), Int64.or_comm, lN_or (i := 8) (by omega) (by omega)]
    refine ih n _ (by omega) (by omega) ht ?_
    have key : ∀ m, leP (fun j => g (b + k + j)) 0 (m + 1) = By (g (b + k)) + leP (fun j => g (b + (k + 1) + j)) 0 m * 2 ^ 8 := by
      intro m
      induction m with
      | zero =>
        show 0 + By (g (b + k)) * 1 = By (g (b + k)) + 0 * 2 ^ 8
        omega
      | succ m ihm =>
        show leP (fun j => g (b + k + j)) 0 (m + 1) + By (g (b + k + (0 + (m + 1)))) * 2 ^ (8 * (m + 1)) = By (g (b + k)) + (leP (fun j => g (b + (k + 1) + j)) 0 m + By (g (b + (k + 1) + (0 + m))) * 2 ^ (8 * m)) * 2 ^ 8
        rw [ihm, Nat.add_mul, Nat.mul_assoc, ← Nat.pow_add, show 8 * m + 8 = 8 * (m + 1) by omega, show b + k + (0 + (m + 1)) = b + (k + 1) + (0 + m) by omega]
        omega
    rw [hv, show z - k = (z - (k + 1)) + 1 by omega, key]
def rcP (p : Nat → Int32) (E a : Nat) (t : Int64 × Int32) : Prop := (∃ v b, cnt p E a = some (v, b) ∧ t.1 = lN v ∧ t.2 = nI b) ∨ (cnt p E a = none ∧ t.1 = -1)
set_option maxHeartbeats 400000 in
theorem lg_n (v w : Nat) (hv : v < 2 ^ 62) (hw : w < 2 ^ 62) : 0 ≤ lg_cmp (lN v) (lN w) ↔ w ≤ v := by
  rw [(lg_c _ _).2, lN_I (by omega), lN_I (by omega)]
  omega
set_option maxHeartbeats 400000 in
theorem v_readCount (fu : Nat) (hfu : 9 ≤ fu) (i1 i3 i4 : Int32) (nr : Nat) (hnr : nr < 2 ^ 30) (g : Nat → Int32) {E a : Nat} (hE : E ≤ nr) (ha : a < 2 ^ 30) : ok (x_La_readCount fu i1 (nI E) i3 i4 nr g (nI a)) (rcP g E a) := by
  unfold x_La_readCount
  have hB := By_lt (g a)
  by_cases g0 : E ≤ a
  · refine ok_f (nI_nlt g0 (by omega)) (ok_some (Or.inr ⟨?_, rfl⟩))
    unfold cnt
    rw [if_pos g0]
  refine ok_t (nI_lt (by omega) (by omega)) (ok_gd (inb_nI (by omega) (by omega)) (ok_bnd ?_))
  rw [nI_clamp (by omega), and255]
  refine ok_bnd (ok_bn (nI_1 a) ?_)
  by_cases g1 : By (g a) < 253
  · refine ok_f (show ¬ (253 : Int32) ≤ nI (By (g a)) from nI_ge (b := 253) g1 (by decide)) (ok_bn (iL (by omega)) (ok_some (Or.inl ⟨By (g a), a + 1, ?_, rfl, rfl⟩)))
    unfold cnt
    rw [if_neg g0, if_pos g1]
  refine ok_t (show (253 : Int32) ≤ nI (By (g a)) from nI_le (a := 253) (by omega) (by omega)) ?_
  have part : ∀ z, (z = 2 ∨ z = 4) → By (g a) ≠ 255 → ∀ lim : Nat, ((z = 2 ∧ lim = 253) ∨ (z = 4 ∧ lim = 65536)) → (cnt g E a = if a + 1 + z ≤ E ∧ lim ≤ leP g (a + 1) z then some (leP g (a + 1) z, a + 1 + z) else none) → ok (xb_La_readCount_61 fu i1 (nI E) i3 i4 nr g (nI (By (g a))) (nI z) (nI (a + 1))) (rcP g E a) := by
    intro z hz h255 lim hlim hc
    unfold xb_La_readCount_61
    refine ok_f (fun q => h255 ((nI_eq (b := 255) (by omega) (by decide)).mp q)) ?_
    rw [show nI E - nI (a + 1) = nI (E - (a + 1)) from pk_sub (by omega)]
    by_cases g2 : a + 1 + z ≤ E
    · refine ok_t (nI_le (by omega) (by omega)) (ok_bn (Int32.sub_eq_add_neg (nI z) 1) ?_)
      have hl := leP_lt g (a + 1) z
      have hl2 : leP g (a + 1) z < 2 ^ 32 := Nat.lt_of_lt_of_le hl (Nat.pow_le_pow_right (by decide) (by omega))
      rw [show (0 : Int64) = lN 0 from rfl, l_rc93 fu i1 (nI E) i3 i4 nr hnr g hz (by omega) z fu 0 (Nat.le_refl _) (by omega) (fun _ _ => trivial) (by rw [Nat.sub_self]; rfl)]
      unfold xb_La_readCount_151
      have e : (if z = 2 then (253 : Int32) else 65536).toInt64 = lN lim := by
        rcases hlim with ⟨h1, h2⟩ | ⟨h1, h2⟩
        · rw [if_pos h1, h2]; decide
        · rw [if_neg (by omega), h2]; decide
      rw [e]
      have hlimb : lim < 2 ^ 62 := by omega
      refine ok_ite (fun q => ?_) (fun q => ?_)
      · have q := (lg_n _ _ (by omega) hlimb).mp q
        exact ok_some (Or.inl ⟨_, _, by rw [hc, if_pos ⟨g2, q⟩], rfl, rfl⟩)
      · refine ok_some (Or.inr ⟨?_, rfl⟩)
        rw [hc, if_neg (fun s => q ((lg_n _ _ (by omega) hlimb).mpr s.2))]
    · refine ok_f (nI_ge (by omega) (by omega)) (ok_some (Or.inr ⟨?_, rfl⟩))
      rw [hc, if_neg (fun s => g2 s.1)]
  by_cases g2 : By (g a) = 253
  · refine ok_t (by rw [g2]; rfl) (part 2 (Or.inl rfl) (by omega) 253 (Or.inl ⟨rfl, rfl⟩) ?_)
    unfold cnt
    rw [if_neg g0, if_neg g1, if_pos g2]
  · refine ok_f (fun q => g2 ((nI_eq (b := 253) (by omega) (by decide)).mp q)) ?_
    by_cases g3 : By (g a) = 254
    · refine part 4 (Or.inr rfl) (by omega) 65536 (Or.inr ⟨rfl, rfl⟩) ?_
      unfold cnt
      rw [if_neg g0, if_neg g1, if_neg g2, if_pos g3]
    · have g4 : By (g a) = 255 := by omega
      unfold xb_La_readCount_61
      refine ok_t (by rw [g4]; rfl) (ok_some (Or.inr ⟨?_, rfl⟩))
      unfold cnt
      rw [if_neg g0, if_neg g1, if_neg g2, if_neg g3]
