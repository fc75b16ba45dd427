-- the law's step: unspent, count, digest
set_option maxHeartbeats 4000000 in
theorem lw_7 {F : Type} [Lean.Grind.Field F] [DecidableEq F] {c : Int → F} (hc : cH pP c) {sgB : Nat → List Int32 → List Int32 → Bool} (hsg : ∀ e K G, sgB e K G = true ↔ sgO c e K G) (fu : Nat) (hfu : 2 ^ 257 ≤ fu) (cy : Nat → ClassId) (ad : Nat → Nat) (mi L : Nat) (xs : Nat → Int32) {k : Nat} (hk6 : 6 * k + 6 ≤ L) (hL : L < 2 ^ 30) {k_23 : Nat → Nat → Mm → Nat → Nat → Nat → Int32 → Prop} {κ σ : Nat} {P : Nat → Prop} {q : Nat → Nat} {C : Nat → va_E} {M : Mm} {S : Ab} {R : List Int32} {vl : Nat → Bool} {mk : Nat → Nat} {s : Ld} {cb : Nat} (h : lwS c sgB P q C M cy ad S R vl mk s cb) (room : κ + 1 ≤ 601024 ∧ σ + 6 ≤ 7293034) (hN : ∀ κ' σ' M' P' q' C' S' R' vl' mk' s' cb', lwS c sgB P' q' C' M' cy ad S' R' vl' mk' s' cb' → lwR S R s cb κ σ S' R' s' cb' κ' σ' → q' 103 = q 103 → q' 216 = q 216 → q' 136 = q 136 → k_23 κ' σ' M' (q 103) (q 216) (q 136) (nI (6 * k + 6))) : bnd ((nI (6 * k)) + (1 : Int32)) fun v389 => gdP (inb v389 L) <| bnd (xs v389.toNatClampNeg) fun v390 => ∃ mc391 ms392 : Nat, (κ + mc391 ≤ 601024 ∧ σ + ms392 ≤ 7293034) ∧ xw_mL_count fu mc391 ms392 cy ad mi (fun v394 M393 => bnd ((nI (6 * k)) + (1 : Int32)) fun v395 => gdP (inb v395 L) <| bnd (xs v395.toNatClampNeg) fun v396 => ∃ (b397 : Nat → Nat) (c398 : Nat → Int32) (c399 : Nat → Int32) (c400 : Nat → Int64) (c401 : Nat → Int32) (c402 : Nat → Int32) (c403 : Nat → Int32), mal M393 [((q 216), .inr (12, mo b397 c403)), ((b397 10), .inl (cy 1, 1616, .inl c398)), ((b397 11), .inl (cy 3, 202, .inl c399)), ((b397 25), .inl (cy 2, 11600, .inr (.inl c400))), ((b397 29), .inl (cy 1, 11600, .inl c401)), ((b397 33), .inl (cy 3, 11600, .inl c402))] ∧ mnd (List.map (fun x : Nat × va_E => x.1) [((q 216), .inr (12, mo b397 c403)), ((b397 10), .inl (cy 1, 1616, .inl c398)), ((b397 11), .inl (cy 3, 202, .inl c399)), ((b397 25), .inl (cy 2, 11600, .inr (.inl c400))), ((b397 29), .inl (cy 1, 11600, .inl c401)), ((b397 33), .inl (cy 3, 11600, .inl c402))]) ∧ ∃ (v404 : Int64) (c405 : Nat → Int32), x_M_count2 fu c398 c399 c400 c401 c402 v396 c403 = some (v404, c405) ∧ bnd (mov M393 [((q 216), .inr (12, mo b397 c405)), ((b397 10), .inl (cy 1, 1616, .inl c398)), ((b397 11), .inl (cy 3, 202, .inl c399)), ((b397 25), .inl (cy 2, 11600, .inr (.inl c400))), ((b397 29), .inl (cy 1, 11600, .inl c401)), ((b397 33), .inl (cy 3, 11600, .inl c402))]) fun M406 => ∃ (b407 : Nat → Nat) (c408 : Nat → Int32), mal M406 [((q 216), .inr (12, mo b407 c408))] ∧ mnd (List.map (fun x : Nat × va_E => x.1) [((q 216), .inr (12, mo b407 c408))]) ∧ ∃ (v409 : Int32), x_M_thrown fu c408 = some (v409) ∧ bnd (mov M406 [((q 216), .inr (12, mo b407 c408))]) fun M410 => if v409 = v394 then (if v394 = 0 then (maj M410 (q 136) (cy 2) (0 : Int32) fun v411 => if (lg_cmp v411 v404) = 0 then (xv_mlaw_582 fu cy ad mi L xs k_23 (κ + mc391) (σ + ms392) M410 (q 103) (q 216) (q 136) (nI (6 * k))) else (False)) else (xv_mlaw_582 fu cy ad mi L xs k_23 (κ + mc391) (σ + ms392) M410 (q 103) (q 216) (q 136) (nI (6 * k)))) else (False)) 0 0 M (q 103) v390 (q 136) := by
  obtain ⟨hk, hp, hPm, ⟨z, A, Q, hr, hrs⟩, ⟨w, h136⟩⟩ := id h
  obtain ⟨hM, hq, hP, fs, h103⟩ := kpS_q hk
  have hrow := hrs.1
  have h3000 := rRow_0 hrow
  have hf40 := fu_ge hfu
  have m103 := g_at hM (hP 103 (by decide)) h103
  have hI := hrs.2.1
  have hC1 := hrs.2.2.1
  have hC2 := hrs.2.2.2.1
  obtain ⟨hz4, N, cs, hz19, hN1, hT, hliv⟩ := hrs.2.2.2.2.2.2.1
  have hz3 := hrs.2.2.2.2.2.1.2.1
  have htip : S.2.2.2.2.2.2.2.1 < S.1 := hI.2.2.2.2.2.2.2.1.1
  have hnb : 1 ≤ S.1 ∧ S.1 ≤ 58 := hI.1
  have hw40 : ∀ j, j < S.1 → wrk S.2.1 S.2.2.2.2.1 j < 2 ^ 40 := fun j hj => by
    have h1 := aI_w hI j hj
    have h2 : (j + 1) * 2 ^ 23 ≤ 58 * 2 ^ 23 := Nat.mul_le_mul_right _ (by omega)
    omega
  obtain ⟨⟨r, z'⟩, he, hz, hrow', hcs⟩ := v_M_count2 fu (by omega) (xs (6 * k + 1)) hrow _ _ _ _ _ _ _ _ _ _ _ _ _ _ _ _ _ hC2 hN1 hT ⟨hnb.1, by omega⟩ htip hC1.2.2.1 hI.2.2.2.2.2.2.2.2 hC1.2.2.2.1 hw40 hz3 hz4 hz19
  refine rdX (j := 1) (by omega) hL rfl ?_
  rcases hcs with ⟨n, c1, c2, c4, c3⟩ | ⟨c1, c2⟩
  · replace c4 : z' 2 = 0 := c4
    rw [c2]
    rw [hliv] at c3
    refine ⟨0, 0, by omega, Or.inr (m_ck m103 ⟨0, 0, ⟨Nat.le_refl _, Nat.le_refl _⟩, w_count fu 0 0 cy ad mi (by omega) hk hp c1 ⟨Nat.le_refl _, Nat.le_refl _⟩ ?_⟩)⟩
    refine w_out hk h136 _ (fun M2 C2 w2 hM2 hk2 h1362 hw2 hF2 => ?_)
    refine rdX (j := 1) (by omega) hL rfl ?_
    refine w_Mcount2 fu hM2 hq hPm (rfM_c hr (fun k a b => ⟨hF2 k (by omega), rfl⟩)) _ he _ (fun M3 C3 hM3 hr3 hF3 => ?_)
    refine w_tl fu (x := 0) hM3 hq hP hPm hr3 ((hF3 136 (by decide)).trans h1362) c4 (fun _ => hw2.trans c3.symm) _ (fun M4 C4 hM4 hr4 hF4 => ?_)
    have hk4 := kpS_c hk2 hM4 (fun k hk => (hF4 k (by omega)).trans (hF3 k (by omega)))
    exact fin662 (hN _ _ M4 P q C4 S R vl mk s cb ⟨hk4, hp, hPm, ⟨z', _, Q, hr4, rSt_z hrs (zq_02 hz) (fun _ _ _ => rfl) rfl hrs.2.2.2.2.2.2.2 rfl hrow'⟩, ⟨w2, (hF4 136 (by decide)).trans ((hF3 136 (by decide)).trans h1362)⟩⟩ (lwR_0 (by omega) (by omega) (by omega)) rfl rfl rfl)
  · replace c2 : z' 2 = 1 := c2
    refine ⟨1, 6, by omega, Or.inl ⟨?_, ⟨by omega, by omega⟩, m_ck m103 ?_⟩⟩
    · unfold xn_mK_count_A
      rcases ix_ge (K := 6) c1 with y | ⟨n, y1, y2, y3, y4⟩
      · exact m_t y trivial
      · refine m_f y4 (m_f (fun x => ?_) trivial)
        rw [y3] at x
        have := (nI_leI (a := n) (b := 5) (by omega) (by omega)).mp x
        omega
    refine rdX (j := 1) (by omega) hL rfl ?_
    refine w_Mcount2 fu hM hq hPm hr _ he _ (fun M3 C3 hM3 hr3 hF3 => ?_)
    refine w_tl fu (x := 0) hM3 hq hP hPm hr3 ((hF3 136 (by decide)).trans h136) c2 (fun y => absurd y (by decide)) _ (fun M4 C4 hM4 hr4 hF4 => ?_)
    have hk4 := kpS_c hk hM4 (fun k hk => (hF4 k (by omega)).trans (hF3 k (by omega)))
    exact fin662 (hN _ _ M4 P q C4 S R vl mk s cb ⟨hk4, hp, hPm, ⟨z', _, Q, hr4, rSt_z hrs (zq_02 hz) (fun _ _ _ => rfl) rfl hrs.2.2.2.2.2.2.2 rfl hrow'⟩, ⟨w, (hF4 136 (by decide)).trans ((hF3 136 (by decide)).trans h136)⟩⟩ (lwR_0 (by omega) (by omega) (by omega)) rfl rfl rfl)
set_option maxHeartbeats 4000000 in
theorem lw_8 {F : Type} [Lean.Grind.Field F] [DecidableEq F] {c : Int → F} (hc : cH pP c) {sgB : Nat → List Int32 → List Int32 → Bool} (hsg : ∀ e K G, sgB e K G = true ↔ sgO c e K G) (fu : Nat) (hfu : 2 ^ 257 ≤ fu) (cy : Nat → ClassId) (ad : Nat → Nat) (mi L : Nat) (xs : Nat → Int32) {k : Nat} (hk6 : 6 * k + 6 ≤ L) (hL : L < 2 ^ 30) {k_23 : Nat → Nat → Mm → Nat → Nat → Nat → Int32 → Prop} {κ σ : Nat} {P : Nat → Prop} {q : Nat → Nat} {C : Nat → va_E} {M : Mm} {S : Ab} {R : List Int32} {vl : Nat → Bool} {mk : Nat → Nat} {s : Ld} {cb : Nat} (h : lwS c sgB P q C M cy ad S R vl mk s cb) (room : κ + 1 ≤ 601024 ∧ σ + 6 ≤ 7293034) (hN : ∀ κ' σ' M' P' q' C' S' R' vl' mk' s' cb', lwS c sgB P' q' C' M' cy ad S' R' vl' mk' s' cb' → lwR S R s cb κ σ S' R' s' cb' κ' σ' → q' 103 = q 103 → q' 216 = q 216 → q' 136 = q 136 → k_23 κ' σ' M' (q 103) (q 216) (q 136) (nI (6 * k + 6))) : mck M (q 103) 0 <| ∃ mc412 ms413 : Nat, (κ + mc412 ≤ 601024 ∧ σ + ms413 ≤ 7293034) ∧ xw_mK_digest fu mc412 ms413 cy ad mi (fun v415 M414 => ∃ (b416 : Nat → Nat) (c417 : Nat → Int32) (c418 : Nat → Int32) (c419 : Nat → Int64) (c420 : Nat → Int32) (c421 : Nat → Int32) (c422 : Nat → Int32) (c423 : Nat → Int32), mal M414 [((q 216), .inr (12, mo b416 c423)), ((b416 14), .inl (cy 1, 17600, .inl c417)), ((b416 17), .inl (cy 1, 2200, .inl c418)), ((b416 25), .inl (cy 2, 11600, .inr (.inl c419))), ((b416 28), .inl (cy 1, 11600, .inl c420)), ((b416 29), .inl (cy 1, 11600, .inl c421)), ((b416 33), .inl (cy 3, 11600, .inl c422))] ∧ mnd (List.map (fun x : Nat × va_E => x.1) [((q 216), .inr (12, mo b416 c423)), ((b416 14), .inl (cy 1, 17600, .inl c417)), ((b416 17), .inl (cy 1, 2200, .inl c418)), ((b416 25), .inl (cy 2, 11600, .inr (.inl c419))), ((b416 28), .inl (cy 1, 11600, .inl c420)), ((b416 29), .inl (cy 1, 11600, .inl c421)), ((b416 33), .inl (cy 3, 11600, .inl c422))]) ∧ ∃ (v424 : Int64) (c425 : Nat → Int32), x_M_digest fu c417 c418 c419 c420 c421 c422 c423 = some (v424, c425) ∧ bnd (mov M414 [((q 216), .inr (12, mo b416 c425)), ((b416 14), .inl (cy 1, 17600, .inl c417)), ((b416 17), .inl (cy 1, 2200, .inl c418)), ((b416 25), .inl (cy 2, 11600, .inr (.inl c419))), ((b416 28), .inl (cy 1, 11600, .inl c420)), ((b416 29), .inl (cy 1, 11600, .inl c421)), ((b416 33), .inl (cy 3, 11600, .inl c422))]) fun M426 => if (lg_cmp v415 v424) = 0 then (xv_mlaw_662 fu cy ad mi L xs k_23 (κ + mc412) (σ + ms413) M426 (q 103) (q 216) (q 136) (nI (6 * k))) else (False)) 0 0 M (q 103) := by
  obtain ⟨hk, hp, hPm, ⟨z, A, Q, hr, hrs⟩, ⟨w, h136⟩⟩ := id h
  obtain ⟨hM, hq, hP, fs, h103⟩ := kpS_q hk
  have hrow := hrs.1
  have h3000 := rRow_0 hrow
  have hf40 := fu_ge hfu
  have m103 := g_at hM (hP 103 (by decide)) h103
  have hC2 := hrs.2.2.2.1
  obtain ⟨hz4, N, cs, hz19, hN1, hT, hliv⟩ := hrs.2.2.2.2.2.2.1
  obtain ⟨⟨r, z'⟩, he, hz, hrow', c4, c3⟩ := v_M_digest fu (by omega) hrow _ _ _ _ _ _ _ _ _ _ _ _ _ _ _ _ _ hC2 hN1 hT hz19
  rw [hliv] at c3
  refine m_ck m103 ⟨0, 0, by omega, w_digest fu 0 0 cy ad mi (by omega) hk hp ⟨Nat.le_refl _, Nat.le_refl _⟩ ?_⟩
  refine w_Mdigest fu hM hq hPm hr he _ (fun M4 C4 hM4 hr4 hF4 => m_t ?_ ?_)
  · replace c3 : r = _ := c3
    rw [c3]
    exact (lg_c _ _).1.mpr rfl
  have hk4 := kpS_c hk hM4 (fun k hk => hF4 k (by omega))
  exact fin662 (hN _ _ M4 P q C4 S R vl mk s cb ⟨hk4, hp, hPm, ⟨z', _, Q, hr4, rSt_z hrs (zq_02 hz) (fun _ _ _ => rfl) rfl hrs.2.2.2.2.2.2.2 rfl hrow'⟩, ⟨w, (hF4 136 (by decide)).trans h136⟩⟩ (lwR_0 (by omega) (by omega) (by omega)) rfl rfl rfl)
set_option maxHeartbeats 4000000 in
theorem lw_6 {F : Type} [Lean.Grind.Field F] [DecidableEq F] {c : Int → F} (hc : cH pP c) {sgB : Nat → List Int32 → List Int32 → Bool} (hsg : ∀ e K G, sgB e K G = true ↔ sgO c e K G) (fu : Nat) (hfu : 2 ^ 257 ≤ fu) (cy : Nat → ClassId) (ad : Nat → Nat) (mi L : Nat) (xs : Nat → Int32) {k : Nat} (hk6 : 6 * k + 6 ≤ L) (hL : L < 2 ^ 30) {k_23 : Nat → Nat → Mm → Nat → Nat → Nat → Int32 → Prop} {κ σ : Nat} {P : Nat → Prop} {q : Nat → Nat} {C : Nat → va_E} {M : Mm} {S : Ab} {R : List Int32} {vl : Nat → Bool} {mk : Nat → Nat} {s : Ld} {cb : Nat} (h : lwS c sgB P q C M cy ad S R vl mk s cb) (room : κ + 1 ≤ 601024 ∧ σ + 6 ≤ 7293034) (hN : ∀ κ' σ' M' P' q' C' S' R' vl' mk' s' cb', lwS c sgB P' q' C' M' cy ad S' R' vl' mk' s' cb' → lwR S R s cb κ σ S' R' s' cb' κ' σ' → q' 103 = q 103 → q' 216 = q 216 → q' 136 = q 136 → k_23 κ' σ' M' (q 103) (q 216) (q 136) (nI (6 * k + 6))) : bnd ((nI (6 * k)) + (1 : Int32)) fun v362 => gdP (inb v362 L) <| bnd (xs v362.toNatClampNeg) fun v363 => ∃ mc364 ms365 : Nat, (κ + mc364 ≤ 601024 ∧ σ + ms365 ≤ 7293034) ∧ xw_mL_unspent2 fu mc364 ms365 cy ad mi (fun v367 M366 => bnd ((nI (6 * k)) + (1 : Int32)) fun v368 => gdP (inb v368 L) <| bnd (xs v368.toNatClampNeg) fun v369 => ∃ (b370 : Nat → Nat) (c371 : Nat → Int32) (c372 : Nat → Int32) (c373 : Nat → Int32) (c374 : Nat → Int64) (c375 : Nat → Int32) (c376 : Nat → Int32) (c377 : Nat → Int32) (c378 : Nat → Int32) (c379 : Nat → Int32) (c380 : Nat → Int32), mal M366 [((q 216), .inr (12, mo b370 c380)), ((b370 0), .inl (cy 0, 3000, .inl c371)), ((b370 14), .inl (cy 1, 17600, .inl c372)), ((b370 17), .inl (cy 1, 2200, .inl c373)), ((b370 25), .inl (cy 2, 11600, .inr (.inl c374))), ((b370 28), .inl (cy 1, 11600, .inl c375)), ((b370 29), .inl (cy 1, 11600, .inl c376)), ((b370 31), .inl (cy 1, 11600, .inl c377)), ((b370 32), .inl (cy 1, 32768, .inl c378)), ((b370 33), .inl (cy 3, 11600, .inl c379))] ∧ mnd (List.map (fun x : Nat × va_E => x.1) [((q 216), .inr (12, mo b370 c380)), ((b370 0), .inl (cy 0, 3000, .inl c371)), ((b370 14), .inl (cy 1, 17600, .inl c372)), ((b370 17), .inl (cy 1, 2200, .inl c373)), ((b370 25), .inl (cy 2, 11600, .inr (.inl c374))), ((b370 28), .inl (cy 1, 11600, .inl c375)), ((b370 29), .inl (cy 1, 11600, .inl c376)), ((b370 31), .inl (cy 1, 11600, .inl c377)), ((b370 32), .inl (cy 1, 32768, .inl c378)), ((b370 33), .inl (cy 3, 11600, .inl c379))]) ∧ ∃ (v381 : Int64) (c382 : Nat → Int32), x_M_unspent fu c371 c372 c373 c374 c375 c376 c377 c378 c379 v369 c380 = some (v381, c382) ∧ bnd (mov M366 [((q 216), .inr (12, mo b370 c382)), ((b370 0), .inl (cy 0, 3000, .inl c371)), ((b370 14), .inl (cy 1, 17600, .inl c372)), ((b370 17), .inl (cy 1, 2200, .inl c373)), ((b370 25), .inl (cy 2, 11600, .inr (.inl c374))), ((b370 28), .inl (cy 1, 11600, .inl c375)), ((b370 29), .inl (cy 1, 11600, .inl c376)), ((b370 31), .inl (cy 1, 11600, .inl c377)), ((b370 32), .inl (cy 1, 32768, .inl c378)), ((b370 33), .inl (cy 3, 11600, .inl c379))]) fun M383 => ∃ (b384 : Nat → Nat) (c385 : Nat → Int32), mal M383 [((q 216), .inr (12, mo b384 c385))] ∧ mnd (List.map (fun x : Nat × va_E => x.1) [((q 216), .inr (12, mo b384 c385))]) ∧ ∃ (v386 : Int32), x_M_thrown fu c385 = some (v386) ∧ bnd (mov M383 [((q 216), .inr (12, mo b384 c385))]) fun M387 => if v386 = v367 then (if v367 = 0 then (maj M387 (q 136) (cy 2) (0 : Int32) fun v388 => if (lg_cmp v388 v381) = 0 then (xv_mlaw_527 fu cy ad mi L xs k_23 (κ + mc364) (σ + ms365) M387 (q 103) (q 216) (q 136) (nI (6 * k))) else (False)) else (xv_mlaw_527 fu cy ad mi L xs k_23 (κ + mc364) (σ + ms365) M387 (q 103) (q 216) (q 136) (nI (6 * k)))) else (False)) 0 0 M (q 103) v363 (q 136) := by
  obtain ⟨hk, hp, hPm, ⟨z, A, Q, hr, hrs⟩, ⟨w, h136⟩⟩ := id h
  obtain ⟨hM, hq, hP, fs, h103⟩ := kpS_q hk
  have hrow := hrs.1
  have h3000 := rRow_0 hrow
  have hf40 := fu_ge hfu
  have m103 := g_at hM (hP 103 (by decide)) h103
  have hC2 := hrs.2.2.2.1
  obtain ⟨hz4, N, cs, hz19, hN1, hT, hliv⟩ := hrs.2.2.2.2.2.2.1
  obtain ⟨⟨r, z'⟩, he, hz, hrow', hcs⟩ := v_M_unspent fu (by omega) (xs (6 * k + 1)) hrow _ _ _ _ _ _ _ _ _ _ _ _ _ _ _ _ _ hC2 hN1 hT
  rw [hliv] at hcs
  refine rdX (j := 1) (by omega) hL rfl ?_
  rcases hcs with ⟨c1, c2⟩ | ⟨c1, c3, c2⟩ | ⟨c1, c4, y, c3, c5⟩
  · replace c2 : z' 2 = 1 := c2
    refine ⟨1, 6, by omega, Or.inl (Or.inl ⟨?_, ⟨by omega, by omega⟩, m_ck m103 ?_⟩)⟩
    · obtain ⟨⟨-, -, ⟨ck', hK⟩, -⟩, -⟩ := id hk
      unfold xn_mK_unspent_A
      exact m_gi (g_at hM (hP 103 (by decide)) hK) rfl (m_f (fun y => c1 ((nI_eq32 (a := R.length) (b := 32) (by omega) (by omega)).mp y)) trivial)
    refine rdX (j := 1) (by omega) hL rfl ?_
    refine w_Munspent fu hM hq hPm hr _ he _ (fun M3 C3 hM3 hr3 hF3 => ?_)
    refine w_tl fu (x := 0) hM3 hq hP hPm hr3 ((hF3 136 (by decide)).trans h136) c2 (fun y => absurd y (by decide)) _ (fun M4 C4 hM4 hr4 hF4 => ?_)
    have hk4 := kpS_c hk hM4 (fun k hk => (hF4 k (by omega)).trans (hF3 k (by omega)))
    exact fin662 (hN _ _ M4 P q C4 S R vl mk s cb ⟨hk4, hp, hPm, ⟨z', _, Q, hr4, rSt_z hrs (zq_02 hz) (fun _ _ _ => rfl) rfl hrs.2.2.2.2.2.2.2 rfl hrow'⟩, ⟨w, (hF4 136 (by decide)).trans ((hF3 136 (by decide)).trans h136)⟩⟩ (lwR_0 (by omega) (by omega) (by omega)) rfl rfl rfl)
  · replace c2 : z' 2 = 2 := c2
    refine ⟨1, 6, by omega, Or.inr (m_ck m103 ?_)⟩
    obtain ⟨u1, u2, u3, u4, u5⟩ := kp_U hp
    have hO := oK_a hp.1.2.1
    have hr0 := TLb_0 hp.1.2.1.1
    obtain ⟨⟨-, ⟨sl, hS⟩, ⟨ck', hK⟩, -⟩, ⟨g, h104, hg, hgf⟩, -⟩ := id hk
    have m103b := g_at hM (hP 103 (by decide)) hK
    refine m_gi m103b rfl ⟨by rw [c1]; rfl, m_gr m103b rfl (m_gr m103b rfl (m_ck (g_at hM (hP 130 (by decide)) hS.2.2.1) ⟨0, 0, ⟨by omega, by omega⟩, ?_⟩))⟩
    have eR : bl g 0 32 = R := by
      have e1 : bl g 0 32 = bl (lf R) 0 32 := bl_c _ _ _ fun j hj => by rw [Nat.zero_add]; exact hg j (by omega)
      rw [e1, ← c1]
      exact bl_lf R
    have hx := nI_U (xs (6 * k + 1))
    rw [← hx]
    refine w_find fu 0 0 cy ad mi (by omega) hM hS hr0 hO (by omega) (hP 104 (by decide)) h104 (by decide) (a := 0) (idx := U (xs (6 * k + 1))) (by decide) (U_lt _) ⟨Nat.le_refl _, Nat.le_refl _⟩ (fun M1 hM1 => ?_)
    rw [eR, fnd_p u3 u4, c3]
    refine ⟨rfl, m_ck (g_at hM1 (hP 103 (by decide)) h103) ?_⟩
    refine rdX (j := 1) (by omega) hL rfl ?_
    refine w_Munspent fu hM1 hq hPm hr _ he _ (fun M3 C3 hM3 hr3 hF3 => ?_)
    refine w_tl fu (x := 0) hM3 hq hP hPm hr3 ((hF3 136 (by decide)).trans h136) c2 (fun y => absurd y (by decide)) _ (fun M4 C4 hM4 hr4 hF4 => ?_)
    have hk4 := kpS_c hk hM4 (fun k hk => (hF4 k (by omega)).trans (hF3 k (by omega)))
    exact fin662 (hN _ _ M4 P q C4 S R vl mk s cb ⟨hk4, hp, hPm, ⟨z', _, Q, hr4, rSt_z hrs (zq_02 hz) (fun _ _ _ => rfl) rfl hrs.2.2.2.2.2.2.2 rfl hrow'⟩, ⟨w, (hF4 136 (by decide)).trans ((hF3 136 (by decide)).trans h136)⟩⟩ (lwR_0 (by omega) (by omega) (by omega)) rfl rfl rfl)
  · replace c4 : z' 2 = 0 := c4
    refine ⟨0, 0, by omega, Or.inl (Or.inr (m_ck m103 ⟨0, 0, ⟨Nat.le_refl _, Nat.le_refl _⟩, w_unsp fu 0 0 cy ad mi (by omega) hk hp (xs (6 * k + 1)) c1 c3 ⟨Nat.le_refl _, Nat.le_refl _⟩ (fun M1 hk1 => ?_)⟩))⟩
    refine w_out hk1 h136 _ (fun M2 C2 w2 hM2 hk2 h1362 hw2 hF2 => ?_)
    refine rdX (j := 1) (by omega) hL rfl ?_
    refine w_Munspent fu hM2 hq hPm (rfM_c hr (fun k a b => ⟨hF2 k (by omega), rfl⟩)) _ he _ (fun M3 C3 hM3 hr3 hF3 => ?_)
    refine w_tl fu (x := 0) hM3 hq hP hPm hr3 ((hF3 136 (by decide)).trans h1362) c4 (fun _ => hw2.trans c5.symm) _ (fun M4 C4 hM4 hr4 hF4 => ?_)
    have hk4 := kpS_c hk2 hM4 (fun k hk => (hF4 k (by omega)).trans (hF3 k (by omega)))
    exact fin662 (hN _ _ M4 P q C4 S R vl mk s cb ⟨hk4, hp, hPm, ⟨z', _, Q, hr4, rSt_z hrs (zq_02 hz) (fun _ _ _ => rfl) rfl hrs.2.2.2.2.2.2.2 rfl hrow'⟩, ⟨w2, (hF4 136 (by decide)).trans ((hF3 136 (by decide)).trans h1362)⟩⟩ (lwR_0 (by omega) (by omega) (by omega)) rfl rfl rfl)
