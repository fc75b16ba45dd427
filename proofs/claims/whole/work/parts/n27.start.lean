-- the start: the law's state
section ST0
variable {cy : Nat → ClassId} {ad : Nat → Nat} {o1 : Nat} {u1 : Nat → Nat} {r1 : TK} {o2 : Nat} {u2 : Nat → Nat} {r2 : TM} {w : Nat}
theorem st_gI {F : Type} [Lean.Grind.Field F] [DecidableEq F] {c : Int → F} (hc : cH pP c) (h : kR0 r1) : gI c (stL r1) (stB r1) := by
  obtain ⟨⟨h0, h1, h2, h3, h4, h5, h6, h7⟩, -⟩ := h
  have T : ∀ {i : Nat} {no pl : Int32} {x y z : Nat → Int64}, i < 8 → (no = 0 ∧ pl = 1 ∧ (∀ j, j < 10 → x j = tbx i j ∧ y j = tby i j) ∧ Tv z 10 = 1 ∧ sz z 2) → jI c no pl x y z (sm (gG c) (2 * i + 1)) ∧ no = 0 := fun hi hh => by
    obtain ⟨rfl, rfl, a, b⟩ := hh
    exact ⟨tb_jI hc hi a b, rfl⟩
  refine ⟨fun i hi => ?_, Or.inl rfl, fun _ _ => rfl, fun _ _ => rfl⟩
  match i, hi with
  | 0, _ => exact T (by decide) h0
  | 1, _ => exact T (by decide) h1
  | 2, _ => exact T (by decide) h2
  | 3, _ => exact T (by decide) h3
  | 4, _ => exact T (by decide) h4
  | 5, _ => exact T (by decide) h5
  | 6, _ => exact T (by decide) h6
  | 7, _ => exact T (by decide) h7
  | n + 8, h => exact absurd h (by omega)
set_option maxHeartbeats 4000000 in
set_option maxRecDepth 100000 in
theorem st_sgQ : sgQ (stq cy ad o1 u1 r1 o2 u2 r2 w) (stR u1) := by
  refine ⟨fun i hi => ?_, fun i hi => ?_, fun i hi => ?_, fun i hi => ?_⟩
  · match i, hi with
    | 0, _ => rfl
    | 1, _ => rfl
    | 2, _ => rfl
    | 3, _ => rfl
    | 4, _ => rfl
    | 5, _ => rfl
    | n + 6, h => exact absurd h (by omega)
  · match i, hi with
    | 0, _ => rfl
    | 1, _ => rfl
    | 2, _ => rfl
    | 3, _ => rfl
    | n + 4, h => exact absurd h (by omega)
  · match i, hi with
    | 0, _ => rfl
    | 1, _ => rfl
    | 2, _ => rfl
    | 3, _ => rfl
    | 4, _ => rfl
    | 5, _ => rfl
    | 6, _ => rfl
    | 7, _ => rfl
    | n + 8, h => exact absurd h (by omega)
  · match i, hi with
    | 0, _ => rfl
    | 1, _ => rfl
    | 2, _ => rfl
    | 3, _ => rfl
    | 4, _ => rfl
    | 5, _ => rfl
    | 6, _ => rfl
    | 7, _ => rfl
    | n + 8, h => exact absurd h (by omega)
set_option maxHeartbeats 4000000 in
set_option maxRecDepth 100000 in
theorem st_mc {F : Type} [Lean.Grind.Field F] [DecidableEq F] {c : Int → F} (hc : cH pP c) (h : kR0 r1) : mcX c (stC cy ad o1 u1 r1 o2 u2 r2 w) (stq cy ad o1 u1 r1 o2 u2 r2 w) cy :=
  ⟨0, 0, 0, 0, 0, 0, .null, 0, 0, .null, 0, _, fun _ => 0, fun _ => 0, fun _ => 0, fun _ => 0, ⟨⟨rfl, rfl, rfl, rfl, rfl⟩, ⟨0, 0, fun _ => 0, fun _ => 0, fun _ => 0, rfl, rfl, rfl, rfl⟩, ⟨rfl, fun _ => 0, fun _ => 0, fun _ => 0, fun _ => 0, rfl, rfl, rfl, rfl⟩, stR u1, stL r1, stB r1, st_sg cy ad o1 u1 r1 o2 u2 r2 w, st_sgQ, st_gI hc h⟩, rfl, h.2.1.1, h.2.1.2⟩
set_option maxHeartbeats 4000000 in
set_option maxRecDepth 100000 in
theorem st_ly : lyX (stC cy ad o1 u1 r1 o2 u2 r2 w) (stq cy ad o1 u1 r1 o2 u2 r2 w) cy :=
  ⟨.null, 0, 0, 0, 0, 0, fun _ => 0, fun _ => 0, fun _ => 0, fun _ => 0, fun _ => 0, fun _ => 0, fun _ => 0, fun _ => 0, fun _ => 0, rfl, rfl, rfl, rfl, rfl, rfl, rfl, rfl, rfl, rfl⟩
theorem st_wrk : lN (wrk (fun _ => 0) (fun _ => (545259519 : Int32)) 0) = lN 2 := by
  have e : wrk (fun _ => 0) (fun _ => (545259519 : Int32)) 0 = Wk 32 8388607 := by
    show wkX (545259519 : Int32) + 0 = _
    rw [wkX_e gb0, Nat.add_zero]
  rw [e, Tg0.2.2]
set_option maxHeartbeats 4000000 in
set_option maxRecDepth 100000 in
theorem st_bl (h : kR0 r1) : stC cy ad o1 u1 r1 o2 u2 r2 w 256 = blO (stq cy ad o1 u1 r1 o2 u2 r2 w) (fun _ => 0) (fun _ => 0) (fun _ => 1000000) (fun _ => 545259519) 0 false false 0 := by
  obtain ⟨-, -, -, h1, h2, h3, h4⟩ := h
  show (Sum.inr (1, [Value.null, .ref (u1 134), .ref (u1 135), .ref (u1 136), .int _, .long _, .int _, .long _, .null, .int 0, .int 0, .int 0]) : va_E) = _
  rw [h1, h2, h3, h4, ← st_wrk]
  rfl
set_option maxHeartbeats 4000000 in
set_option maxRecDepth 100000 in
/-- the keeper's state at the start -/
theorem st_kp {F : Type} [Lean.Grind.Field F] [DecidableEq F] {c : Int → F} (hc : cH pP c) (h : kR0 r1) {A : Nat → Prop} (hD : va_D A (stW cy ad o1 u1 r1 o2 u2 r2 w)) (had : ∀ k, stP k → stq cy ad o1 u1 r1 o2 u2 r2 w k ≠ ad 26) {μ : Mm} (hμ : mw μ = stW cy ad o1 u1 r1 o2 u2 r2 w) : kpS c stP (stq cy ad o1 u1 r1 o2 u2 r2 w) (stC cy ad o1 u1 r1 o2 u2 r2 w) μ cy ad S0 [] (fun _ => false) (fun _ => 0) ([], [], 0, 0) 10 := by
  have p : ∀ k, k < 138 ∧ k ≠ 29 ∧ k ≠ 137 ∧ k ≠ 135 → stP k := fun k hk => stP_lo k hk.1 hk.2
  refine ⟨⟨stRG hμ, ⟨fun _ => 0, ⟨stIJ hD, p, by decide +kernel, rfl⟩, ⟨fun b hb => ?_, fun c hv => (cVd0 hv).elim⟩, rfl, ⟨p 131 (by decide), r1.2.2.2.2.2.2.2.2.2.2.2.2.2.2.2.2.2.2.2.2.2.2.2.2.2.2.2.2.2.2.2.2.2.2.2.2.2.2.2.2.2.1, Or.inl ⟨rfl, rfl, by decide +kernel, rfl⟩⟩, ⟨p 132 (by decide), r1.2.2.2.2.2.2.2.2.2.2.2.2.2.2.2.2.2.2.2.2.2.2.2.2.2.2.2.2.2.2.2.2.2.2.2.2.2.2.2.2.2.2.1, Or.inl ⟨rfl, rfl, by decide +kernel, rfl⟩⟩, fun c hc => (nomatch hc), fun c hc => (nomatch hc), List.nodup_nil, fun i hi => absurd hi (Nat.not_lt_zero _), fun c hv => (cVd0 hv).elim⟩, ⟨0, rfl⟩, st_ly, ⟨fun _ => none, rfl⟩, st_mc hc h, ?_⟩, ⟨fun _ => 0, rfl, fun j hj => absurd hj (Nat.not_lt_zero _), fun j => rfl⟩, ⟨fun _ => 0, rfl, fun j => rfl⟩, ⟨by decide +kernel, by decide +kernel⟩, fun j hj hp => ?_⟩
  · have e : b = 0 := by
      have : b < 1 := hb
      omega
    subst e
    refine ⟨⟨by decide +kernel, by decide +kernel, by decide +kernel, by decide +kernel, fun h => absurd h (Nat.lt_irrefl _)⟩, st_bl h, rfl, ⟨fun _ => 0, rfl, fun j _ => rfl⟩, ⟨0, fun _ => 0, rfl, by decide, fun h => absurd h (Nat.lt_irrefl _), fun t ht => absurd ht (Nat.not_lt_zero _)⟩, fun h => absurd h (Nat.lt_irrefl _)⟩
  · refine ⟨p 133 (by decide), r1.2.2.2.2.2.2.2.2.2.2.2.2.2.2.2.2.2.2.2.2.2.2.2.2.2.2.2.2.2.2.2.2.2.2.2.2.2.2.2.2.2.2.2.2.1, Or.inr ⟨by decide +kernel, by decide, by decide, ⟨by decide, fun e => had 222 (by decide +kernel) e⟩, ?_, va_up (fun _ => none) 0 (some (u1 133)), rfl, fun i hi => ?_⟩⟩
    · show (Sum.inr (11, [Value.ref (u1 137), .int _, .int _]) : va_E) = _
      rw [h.2.2.1]
      rfl
    · have e : i = 0 := by
        have : i < 1 := hi
        omega
      subst e
      rfl
  · have h1 := (stP_lt hp).1
    have h2 : kB S0.1 ≤ j := hj
    rw [show kB S0.1 = 768 by decide] at h2
    omega
set_option maxHeartbeats 4000000 in
set_option maxRecDepth 100000 in
/-- the law's state at the start -/
theorem st_lw {F : Type} [Lean.Grind.Field F] [DecidableEq F] {c : Int → F} (hc : cH pP c) (sgB : Nat → List Int32 → List Int32 → Bool) (h : kR0 r1) (h2 : mR0 r2) {A : Nat → Prop} (hD : va_D A (stW cy ad o1 u1 r1 o2 u2 r2 w)) (had : ∀ k, stP k → stq cy ad o1 u1 r1 o2 u2 r2 w k ≠ ad 26) {μ : Mm} (hμ : mw μ = stW cy ad o1 u1 r1 o2 u2 r2 w) : lwS c sgB stP (stq cy ad o1 u1 r1 o2 u2 r2 w) (stC cy ad o1 u1 r1 o2 u2 r2 w) μ cy ad S0 [] (fun _ => false) (fun _ => 0) ([], [], 0, 0) 10 :=
  ⟨st_kp hc h hD had hμ, kpP0 sgB, fun k k1 k2 => stP_hi k (by omega) k1, ⟨r2.1, A0 r2, fun _ => 0, ⟨rfl, st_rf cy ad o1 u1 r1 o2 u2 r2 w⟩, rfS0 sgB h2⟩, fun _ => 0, rfl⟩
end ST0
