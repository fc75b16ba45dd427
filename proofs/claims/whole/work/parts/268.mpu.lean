-- a block's code out of its pieces; marks along a way
set_option maxHeartbeats 400000 in
theorem vlR_go {sgB : Nat → List Int32 → List Int32 → Bool} {rw : Nat → List Int32} {hgt : Nat → Nat} {b : Nat} {U : List Cn} {r : Nat × List Cn × Nat} : ∀ T n, (∀ t, t < T → (stp0 rw hgt b t (Uq rw hgt b U t)).1 = 0) → (∀ t, 0 < t → t < T → scA sgB rw b t (Uq rw hgt b U t)) → vlR sgB rw hgt b n T (Uq rw hgt b U T) (Fq rw hgt b U T) r → vlR sgB rw hgt b (n + T) 0 U 0 r
  | 0, n, _, _, h => h
  | T + 1, n, h0, h1, h => by
    rw [show n + (T + 1) = (n + 1) + T from by omega]
    refine vlR_go T (n + 1) (fun t ht => h0 t (by omega)) (fun t h2 h3 => h1 t h2 (by omega)) ?_
    refine ⟨stp0 rw hgt b T (Uq rw hgt b U T), Or.inr ⟨?_, rfl⟩, Or.inr ⟨h0 T (by omega), h⟩⟩
    by_cases z : T = 0
    · exact Or.inr (Or.inl z)
    · exact Or.inr (Or.inr (h1 T (by omega) (by omega)))
set_option maxHeartbeats 400000 in
theorem vld_1 {sgB : Nat → List Int32 → List Int32 → Bool} {rw : Nat → List Int32} {hgt : Nat → Nat} {b : Nat} {U : List Cn} {T w : Nat} (hT : cnT rw hgt b U T w) (hs : ∀ t, 0 < t → t < T → scA sgB rw b t (Uq rw hgt b U t)) : vld sgB rw hgt b U w (Uq rw hgt b U T) := by
  obtain ⟨h1, h2, h3⟩ := hT
  rcases h3 with ⟨h4, h5, h6⟩ | ⟨h4, h5⟩
  · refine ⟨(w, [], 0), ?_, Or.inl ⟨h5, rfl⟩⟩
    have := vlR_go (sgB := sgB) (rw := rw) (hgt := hgt) (b := b) (U := U) (r := (w, [], 0)) T ((TLb rw b).length - T) h2 hs (by
      obtain ⟨n, hn⟩ : ∃ n, (TLb rw b).length - T = n + 1 := ⟨(TLb rw b).length - T - 1, by omega⟩
      rw [hn]
      refine ⟨stp0 rw hgt b T (Uq rw hgt b U T), Or.inr ⟨Or.inl (by rw [← h6]; exact h5), rfl⟩, Or.inl ⟨by rw [← h6]; exact h5, h6⟩⟩)
    rw [show (TLb rw b).length - T + T = (TLb rw b).length from by omega] at this
    exact this
  · subst h4
    refine ⟨(0, Uq rw hgt b U (TLb rw b).length, Fq rw hgt b U (TLb rw b).length), ?_, Or.inr ⟨rfl, rfl, h5⟩⟩
    have := vlR_go (sgB := sgB) (rw := rw) (hgt := hgt) (b := b) (U := U) (r := (0, Uq rw hgt b U (TLb rw b).length, Fq rw hgt b U (TLb rw b).length)) (TLb rw b).length 0 h2 hs rfl
    rw [Nat.zero_add] at this
    exact this
set_option maxHeartbeats 400000 in
theorem vld_2 {sgB : Nat → List Int32 → List Int32 → Bool} {rw : Nat → List Int32} {hgt : Nat → Nat} {b : Nat} {U : List Cn} {T w : Nat} (hT : cnT rw hgt b U T w) (hs : ¬ ∀ t, 0 < t → t < T → scA sgB rw b t (Uq rw hgt b U t)) (V : List Cn) : vld sgB rw hgt b U 13 V := by
  obtain ⟨h1, h2, -⟩ := hT
  -- the first that fails
  have key : ∀ n, n ≤ T → (∀ t, 0 < t → t < n → scA sgB rw b t (Uq rw hgt b U t)) ∨ ∃ t, 0 < t ∧ t < n ∧ ¬ scA sgB rw b t (Uq rw hgt b U t) ∧ ∀ t', 0 < t' → t' < t → scA sgB rw b t' (Uq rw hgt b U t') := by
    intro n
    induction n with
    | zero => exact fun _ => Or.inl fun t _ h => absurd h (Nat.not_lt_zero _)
    | succ n ih =>
      intro hn
      rcases ih (by omega) with h | ⟨t, a, b', c, d⟩
      · by_cases z : 0 < n ∧ ¬ scA sgB rw b n (Uq rw hgt b U n)
        · exact Or.inr ⟨n, z.1, Nat.lt_succ_self _, z.2, h⟩
        · refine Or.inl fun t a c => ?_
          by_cases e : t = n
          · rw [e] at a ⊢
            exact Classical.byContradiction fun y => z ⟨a, y⟩
          · exact h t a (by omega)
      · exact Or.inr ⟨t, a, by omega, c, d⟩
  rcases key T (Nat.le_refl _) with h | ⟨t, a, c, d, e⟩
  · exact absurd h hs
  refine ⟨(13, [], 0), ?_, Or.inl ⟨by decide, rfl⟩⟩
  have := vlR_go (sgB := sgB) (rw := rw) (hgt := hgt) (b := b) (U := U) (r := (13, [], 0)) t ((TLb rw b).length - t) (fun t' h => h2 t' (by omega)) e (by
    obtain ⟨n, hn⟩ : ∃ n, (TLb rw b).length - t = n + 1 := ⟨(TLb rw b).length - t - 1, by omega⟩
    rw [hn]
    exact ⟨(13, [], 0), Or.inl ⟨h2 t (by omega), by omega, d, rfl⟩, Or.inl ⟨by decide, rfl⟩⟩)
  rw [show (TLb rw b).length - t + t = (TLb rw b).length from by omega] at this
  exact this
set_option maxHeartbeats 400000 in
/-- a block whose code is known to be 0 -/
theorem vld_3 {sgB : Nat → List Int32 → List Int32 → Bool} {rw : Nat → List Int32} {hgt : Nat → Nat} {b : Nat} {U V : List Cn} {T w : Nat} (hT : cnT rw hgt b U T w) (h : vld sgB rw hgt b U 0 V) : w = 0 ∧ T = (TLb rw b).length ∧ V = Uq rw hgt b U T ∧ ∀ t, 0 < t → t < T → scA sgB rw b t (Uq rw hgt b U t) := by
  have hs : ∀ t, 0 < t → t < T → scA sgB rw b t (Uq rw hgt b U t) := Classical.byContradiction fun z => absurd (vld_u h (vld_2 hT z V)).1 (by decide)
  have hu := vld_u h (vld_1 hT hs)
  refine ⟨hu.1.symm, ?_, hu.2 rfl, hs⟩
  rcases hT.2.2 with ⟨-, h5, -⟩ | ⟨h4, -⟩
  · exact absurd hu.1.symm h5
  · exact h4
set_option maxHeartbeats 400000 in
theorem isA_s {par hgt : Nat → Nat} {x n : Nat} (hn : hgt n = hgt (par n) + 1) : isA par hgt x n ↔ x = n ∨ isA par hgt x (par n) := by
  constructor
  · rintro ⟨k, h1, h2⟩
    match k, h1, h2 with
    | 0, h1, h2 => exact Or.inl h1.symm
    | k + 1, h1, h2 => exact Or.inr ⟨k, h1, by omega⟩
  · rintro (h | ⟨k, h1, h2⟩)
    · exact ⟨0, h.symm, by rw [h]; rfl⟩
    · exact ⟨k + 1, h1, by omega⟩
set_option maxHeartbeats 400000 in
theorem isA_le {par hgt : Nat → Nat} (hp : ∀ k, 0 < k → par k < k) {nb : Nat} (hh : hgt 0 = 0 ∧ ∀ k, 0 < k → k < nb → hgt k = hgt (par k) + 1) {x b : Nat} (hb : b < nb) (h : isA par hgt x b) : x ≤ b := by
  obtain ⟨n, h1, h2⟩ := h
  induction n generalizing b with
  | zero => exact Nat.le_of_eq h1.symm
  | succ n ih =>
    have b0 : 0 < b := by
      rcases Nat.eq_zero_or_pos b with e | e
      · rw [e, hh.1] at h2
        omega
      · exact e
    have e1 := hh.2 b b0 hb
    have e2 := hp b b0
    have := ih (b := par b) (by omega) h1 (by omega)
    omega
set_option maxHeartbeats 400000 in
theorem isA_t {par hgt : Nat → Nat} {x y z : Nat} (h1 : isA par hgt x y) (h2 : isA par hgt y z) : isA par hgt x z := by
  obtain ⟨n, a, b⟩ := h1
  obtain ⟨m, c, d⟩ := h2
  exact ⟨m + n, by rw [up_a, c]; exact a, by omega⟩
/-- how many changes a block makes at most -/
def hBn (rw : Nat → List Int32) (b : Nat) : Nat := nIn (TLb rw b) + 2 * nOut (TLb rw b)
/-- the marks of the blocks before top, and the changes -/
def mkI (sgB : Nat → List Int32 → List Int32 → Bool) (rw : Nat → List Int32) (par hgt mk : Nat → Nat) (H : List Cn) (top : Nat) : Prop := ∀ x, isA par hgt x top → mk x ≤ H.length ∧ (∀ y, isA par hgt y x → mk y ≤ mk x) ∧ mk x ≤ sumL (hBn rw) (wy par x) ∧ ∃ i V, evW sgB rw hgt (wy par x) [] 0 i V ∧ prL V (H.take (mk x))
set_option maxHeartbeats 400000 in
theorem mkI_tk {sgB : Nat → List Int32 → List Int32 → Bool} {rw : Nat → List Int32} {par hgt mk : Nat → Nat} {H : List Cn} {top z : Nat} (h : mkI sgB rw par hgt mk H top) (hz : isA par hgt z top) : mkI sgB rw par hgt mk (H.take (mk z)) z := fun x hx => by
  obtain ⟨a, b, c, i, V, d, e⟩ := h x (isA_t hx hz)
  obtain ⟨a', b', -⟩ := h z hz
  have hm := b' x hx
  refine ⟨?_, b, c, i, V, d, ?_⟩
  · rw [List.length_take]
    omega
  · rw [List.take_take, Nat.min_eq_left hm]
    exact e
set_option maxHeartbeats 400000 in
theorem mkI_ap {sgB : Nat → List Int32 → List Int32 → Bool} {rw : Nat → List Int32} {par hgt mk mk' : Nat → Nat} {H D : List Cn} {top : Nat} (h : mkI sgB rw par hgt mk H top) (hm : ∀ x, isA par hgt x top → mk' x = mk x) : mkI sgB rw par hgt mk' (H ++ D) top := fun x hx => by
  obtain ⟨a, b, c, i, V, d, e⟩ := h x hx
  rw [hm x hx]
  refine ⟨by rw [List.length_append]; omega, fun y hy => by rw [hm y (isA_t hy hx)]; exact b y hy, c, i, V, d, ?_⟩
  rw [List.take_append_of_le_length a]
  exact e
set_option maxHeartbeats 400000 in
theorem mkI_nx {sgB : Nat → List Int32 → List Int32 → Bool} {rw : Nat → List Int32} {par hgt mk : Nat → Nat} {H D : List Cn} {n : Nat} (hp : ∀ k, 0 < k → par k < k) {nb : Nat} (hh : hgt 0 = 0 ∧ ∀ k, 0 < k → k < nb → hgt k = hgt (par k) + 1) (hn0 : 0 < n) (hnb : n < nb) (h : mkI sgB rw par hgt mk H (par n)) (hl : (H ++ D).length ≤ sumL (hBn rw) (wy par n)) {i : Nat} {V : List Cn} (hV : evW sgB rw hgt (wy par n) [] 0 i V) (hpr : prL V (H ++ D)) : mkI sgB rw par hgt (upW mk n (H ++ D).length) (H ++ D) n := by
  have hlt := hp n hn0
  have hn := hh.2 n hn0 hnb
  have hm : ∀ x, isA par hgt x (par n) → upW mk n (H ++ D).length x = mk x := fun x hx => upW_n (by
    have := isA_le hp hh (by omega) hx
    omega)
  have h' := mkI_ap (D := D) h hm
  intro x hx
  rcases (isA_s hn).mp hx with e | e
  · subst e
    rw [upW_s]
    refine ⟨Nat.le_refl _, fun y hy => ?_, hl, i, V, hV, by rw [List.take_length]; exact hpr⟩
    rcases (isA_s hn).mp hy with e | e
    · rw [e, upW_s]
      exact Nat.le_refl _
    · exact (h' y e).1
  · exact h' x e
set_option maxHeartbeats 400000 in
/-- the block of a way at height h -/
theorem wy_up {par hgt : Nat → Nat} (hp : ∀ k, 0 < k → par k < k) {nb : Nat} (hh : hgt 0 = 0 ∧ ∀ k, 0 < k → k < nb → hgt k = hgt (par k) + 1) {b h : Nat} (hb : b < nb) (hl : h < hgt b) : 0 < up par (hgt b - (h + 1)) b ∧ up par (hgt b - (h + 1)) b < nb ∧ hgt (up par (hgt b - (h + 1)) b) = h + 1 ∧ par (up par (hgt b - (h + 1)) b) = up par (hgt b - h) b := by
  have hcI : chI nb par hgt := ⟨by omega, hh.1, fun k hk hk' => ⟨hp k hk, hh.2 k hk hk'⟩⟩
  have hu := up_b hcI (hgt b - (h + 1)) b hb (by omega)
  have h1 : hgt (up par (hgt b - (h + 1)) b) = h + 1 := by
    have := hu.2
    omega
  refine ⟨?_, hu.1, h1, ?_⟩
  · rcases Nat.eq_zero_or_pos (up par (hgt b - (h + 1)) b) with e | e
    · rw [e, hh.1] at h1
      omega
    · exact e
  · rw [← up_c par, show hgt b - (h + 1) + 1 = hgt b - h from by omega]
