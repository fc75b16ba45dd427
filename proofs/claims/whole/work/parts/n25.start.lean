-- the start: the abstract state, what holds of it, the constructors' values
def S0 : Ab := (1, fun _ => 0, fun _ => 0, fun _ => 1000000, fun _ => 545259519, fun _ => false, fun _ => [], 0, [])
theorem gb0 : gb (545259519 : Int32) 32 8388607 := ⟨by decide, by decide, by decide, by decide, by decide⟩
theorem gT0 : gT (545259519 : Int32) 0 := ⟨32, 8388607, gb0, by decide +kernel⟩
theorem TLb0 (b : Nat) : TLb (fun _ => []) b = [] := rfl
theorem Vdr0 {n b t : Nat} (h : Vdr (fun _ => []) n b t) : False := Nat.not_lt_zero _ h.2
theorem cVd0 {n : Nat} {c : Cn} (h : cVd (fun _ => []) n c) : False := Vdr0 h.1
theorem wy0 : wy (fun _ => 0) 0 = [] := rfl
theorem aIS0 (sgB : Nat → List Int32 → List Int32 → Bool) : aIS sgB S0 := by
  refine ⟨⟨by decide, by decide⟩, ⟨rfl, fun b h1 h2 => absurd h2 (by show ¬ b < 1; omega)⟩, fun k hk => hk, ⟨rfl, fun k h1 h2 => absurd h2 (by show ¬ k < 1; omega)⟩, ⟨rfl, rfl, fun k h1 h2 => absurd h2 (by show ¬ k < 1; omega)⟩, fun k k' h1 h2 _ => ?_, by decide, ⟨by decide, 0, rfl, rfl⟩, rfl⟩
  have h1 : k < 1 := h1
  have h2 : k' < 1 := h2
  omega
theorem kpP0 (sgB : Nat → List Int32 → List Int32 → Bool) : kpP sgB S0 [] (fun _ => false) (fun _ => 0) ([], [], 0, 0) 10 := by
  have hz : ∀ {L : List Cn} {H : List Cn}, H = [] → prL L H → L = [] := fun e h => by
    subst e
    exact List.eq_nil_iff_forall_not_mem.mpr (fun x hx => absurd ((h x).mp hx) (by simp))
  refine ⟨aIS0 sgB, fun x _ h => (nomatch h), ⟨⟨List.nodup_nil, fun x => by simp, fun k L _ hp => ?_, fun c hc => (nomatch hc), Nat.le_refl _, by decide, by decide⟩, fun x hx => ?_, rfl, fun x => Iff.rfl, 0, rfl, rfl⟩, ⟨by decide, fun j => rfl⟩, by decide⟩
  · have e : L = [] := hz (by simp) hp
    subst e
    exact ⟨Nat.le_refl _, fun c c' hc => nomatch hc⟩
  · obtain ⟨n, h1, h2⟩ := hx
    have hn : n = 0 := by
      have h2 : 0 = 0 + n := h2
      omega
    subst hn
    have hx : x = 0 := h1.symm
    subst hx
    exact ⟨Nat.le_refl _, fun _ _ => Nat.le_refl _, Nat.zero_le _, 0, [], ⟨rfl, rfl⟩, fun x => by simp⟩
-- the reference's numbers
def one0 : Nat → Int32 := upd (upd (upd (upd (upd (upd (upd (upd (fun _ => 0) (0 : Int32).toNatClampNeg (1 : Int32)) (1 : Int32).toNatClampNeg (0 : Int32)) (2 : Int32).toNatClampNeg (0 : Int32)) (3 : Int32).toNatClampNeg (0 : Int32)) (4 : Int32).toNatClampNeg (0 : Int32)) (5 : Int32).toNatClampNeg (0 : Int32)) (6 : Int32).toNatClampNeg (0 : Int32)) (7 : Int32).toNatClampNeg (0 : Int32)
def z0 : Nat → Int32 := fun j => ([(0 : Int32), 0, 0, (1 : Int32), 0, 0, 0, 0, 0, 0, 0, 0, 0, 0, 0, 0, 0, 0, 0, 0] : List Int32).getD j 0
theorem one0_V : V one0 8 = 1 := by decide +kernel
theorem Tg0 : Tg 32 8388607 + 1 < 2 ^ 256 ∧ (2 ^ 256 - 1 - Tg 32 8388607) / (Tg 32 8388607 + 1) + 1 = 2 ∧ Wk 32 8388607 = 2 := by decide +kernel
/-- what the reference's constructor makes -/
def mR0 (res : (Nat → Int32) × (Nat → Int32) × (Nat → Int32) × (Nat → Int32) × (Nat → Int32) × (Nat → Int32) × (Nat → Int32) × (Nat → Int32) × (Nat → Int32) × (Nat → Int32) × (Nat → Int32) × (Nat → Int32) × (Nat → Int32) × (Nat → Int32) × (Nat → Int32)) : Prop := res.1 = z0 ∧ res.2.1 0 = -1 ∧ res.2.2.1 0 = 1000000 ∧ res.2.2.2.1 0 = 545259519 ∧ Wa res.2.2.2.2.1 0 = 2 ∧ (∀ p, p < 32768 → res.2.2.2.2.2.1 p = -1) ∧ res.2.2.2.2.2.2.2.2.1 = one0
theorem M_init0 (fu : Nat) (hfu : 40000 ≤ fu) : ok (x_M_init fu 0 0 0 0 0 0 0 0 0 0 0 0 0 0 0 0 0 0 0 0) mR0 := by
  obtain ⟨t0, t1, t2⟩ := Tg0
  obtain ⟨⟨v6, f7⟩, a1, a2⟩ := v_M_target fu (by omega) z0 gb0 (fun _ => 0)
  obtain ⟨⟨f8, f9, f10, f11, f12, f13, f14⟩, b1, b2, b3⟩ := v_M_worth fu (by omega) z0 (upd (fun _ => 0) (0 : Int32).toNatClampNeg (-1 : Int32)) f7 one0 (b := 0) (P := 0) (T := Tg 32 8388607) (Q := 2) (X := 2 ^ 256) rfl (by decide) a2 t0 t1 one0_V (fun _ => 0) (fun _ => 0) (fun _ => 0) (fun _ => 0) (fun _ => 0) (fun _ => 0) (fun _ => 0) (Or.inl ⟨by decide, rfl⟩) (by decide +kernel)
  obtain ⟨⟨f15, f16⟩, c1, c2⟩ := v_M_clear fu hfu (z := z0) (O := 0) (by decide) rfl (fun _ => 0) (fun _ => 0)
  refine ⟨(z0, upd (fun _ => 0) (0 : Int32).toNatClampNeg (-1 : Int32), upd (fun _ => 0) (0 : Int32).toNatClampNeg (1000000 : Int32), upd (fun _ => 0) (0 : Int32).toNatClampNeg (545259519 : Int32), f8, f15, f16, f7, one0, f9, f10, f11, f12, f13, f14), ?_, rfl, (show upd (fun _ => 0) 0 (-1 : Int32) 0 = -1 from pk_us), (show upd (fun _ => 0) 0 (1000000 : Int32) 0 = 1000000 from pk_us), (show upd (fun _ => 0) 0 (545259519 : Int32) 0 = 545259519 from pk_us), b3, c2, rfl⟩
  show bd2 (x_M_target fu z0 (545259519 : Int32) (fun _ => 0)) (fun v6 f7 => bd7 (x_M_worth fu z0 (upd (fun _ => 0) (0 : Int32).toNatClampNeg (-1 : Int32)) f7 one0 (nI 0) (fun _ => 0) (fun _ => 0) (fun _ => 0) (fun _ => 0) (fun _ => 0) (fun _ => 0) (fun _ => 0)) fun f8 f9 f10 f11 f12 f13 f14 => bd2 (x_M_clear fu z0 (fun _ => 0) (fun _ => 0)) fun f15 f16 => some (z0, upd (fun _ => 0) (0 : Int32).toNatClampNeg (-1 : Int32), upd (fun _ => 0) (0 : Int32).toNatClampNeg (1000000 : Int32), upd (fun _ => 0) (0 : Int32).toNatClampNeg (545259519 : Int32), f8, f15, f16, f7, one0, f9, f10, f11, f12, f13, f14)) = _
  simp only [a1, b1, c1, bd2, bd7, Option.bind_some]
/-- the arrays of the reference at the start -/
def A0 (res : (Nat → Int32) × (Nat → Int32) × (Nat → Int32) × (Nat → Int32) × (Nat → Int32) × (Nat → Int32) × (Nat → Int32) × (Nat → Int32) × (Nat → Int32) × (Nat → Int32) × (Nat → Int32) × (Nat → Int32) × (Nat → Int32) × (Nat → Int32) × (Nat → Int32)) (i : Nat) : Nat → Int32 :=
  if i = 3 then res.2.1 else if i = 5 then res.2.2.1 else if i = 6 then res.2.2.2.1 else if i = 10 then res.2.2.2.2.1 else if i = 32 then res.2.2.2.2.2.1 else if i = 33 then res.2.2.2.2.2.2.1 else if i = 38 then res.2.2.2.2.2.2.2.1 else if i = 39 then res.2.2.2.2.2.2.2.2.1 else if i = 40 then res.2.2.2.2.2.2.2.2.2.1 else if i = 41 then res.2.2.2.2.2.2.2.2.2.2.1 else if i = 42 then res.2.2.2.2.2.2.2.2.2.2.2.1 else if i = 43 then res.2.2.2.2.2.2.2.2.2.2.2.2.1 else if i = 44 then res.2.2.2.2.2.2.2.2.2.2.2.2.2.1 else if i = 45 then res.2.2.2.2.2.2.2.2.2.2.2.2.2.2 else fun _ => 0
theorem rfS0 (sgB : Nat → List Int32 → List Int32 → Bool) {res : (Nat → Int32) × (Nat → Int32) × (Nat → Int32) × (Nat → Int32) × (Nat → Int32) × (Nat → Int32) × (Nat → Int32) × (Nat → Int32) × (Nat → Int32) × (Nat → Int32) × (Nat → Int32) × (Nat → Int32) × (Nat → Int32) × (Nat → Int32) × (Nat → Int32)} (h : mR0 res) : rfS sgB S0 [] res.1 (A0 res) (fun _ => 0) := by
  obtain ⟨h1, h2, h3, h4, h5, h6, h7⟩ := h
  rw [h1]
  have k1 : ∀ k, k < 1 → k = 0 := fun k hk => by omega
  refine ⟨⟨rfl, by decide, fun j hj => absurd hj (Nat.not_lt_zero _), fun j => rfl, fun j => rfl⟩, aIS0 sgB, ⟨⟨⟨by decide, rfl, fun k k1 k2 => absurd k2 (by show ¬ k < 1; omega)⟩, h2, fun k hk => ?_⟩, fun k hk i _ => ?_, fun k hk => ?_, fun k hk => ?_, fun b b1 b2 => absurd b2 (by show ¬ b < 1; omega)⟩, ⟨fun j => rfl, ?_, fun b t hv => (Vdr0 hv).elim⟩, fun b t k hv => (Vdr0 hv).elim, ⟨rfl, rfl, rfl, rfl, rfl⟩, ⟨rfl, 0, fun _ => (0, 0, 0), rfl, by decide, ⟨fun e he => absurd he (Nat.not_lt_zero _), fun p hp => ⟨[], h6 p hp, fun e he => absurd he (Nat.not_lt_zero _), fun e he => (nomatch he), Nat.le_refl _⟩, fun e e' he => absurd he (Nat.not_lt_zero _)⟩, rfl⟩, fun j => rfl⟩
  · obtain rfl := k1 k hk
    exact ⟨fun h => absurd h (Nat.lt_irrefl _), rfl, h3.trans (by decide), by decide, h4, gT0, by decide⟩
  · obtain rfl := k1 k hk
    show (0 : Int32) = nI (leP (fun _ => 0) (4 * i) 4)
    have e : leP (fun _ => (0 : Int32)) (4 * i) 4 = 0 := by
      have b0 : By (0 : Int32) = 0 := by decide
      simp only [leP, b0, Nat.zero_mul, Nat.add_zero]
    rw [e]
    rfl
  · obtain rfl := k1 k hk
    rfl
  · obtain rfl := k1 k hk
    refine h5.trans ?_
    have e : wrk (fun _ => 0) (fun _ => (545259519 : Int32)) 0 = Wk 32 8388607 := by
      show wkX (545259519 : Int32) + 0 = _
      rw [wkX_e gb0, Nat.add_zero]
    exact (e.trans Tg0.2.2).symm
  · show V (A0 res 39) 8 = 1
    rw [show A0 res 39 = one0 from h7]
    exact one0_V
