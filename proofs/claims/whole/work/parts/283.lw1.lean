-- the law's step: end, hash, tip
set_option maxHeartbeats 1000000 in
theorem ix_ge {a : Int32} {K : Nat} (h : ∀ n, n < K → a ≠ nI n) : a < 0 ∨ ∃ n, K ≤ n ∧ n < 2 ^ 31 ∧ a = nI n ∧ ¬ a < 0 := by
  by_cases g : a < 0
  · exact Or.inl g
  · have hU : U a < 2 ^ 31 := by
      rcases Nat.lt_or_ge (U a) (2 ^ 31) with y | y
      · exact y
      · exfalso
        apply g
        rw [Int32.lt_iff_toInt_lt]
        have := i_toInt a
        have h2 := U_lt a
        rw [show (0 : Int32).toInt = 0 from rfl]
        split at this <;> omega
    refine Or.inr ⟨U a, ?_, hU, (nI_U a).symm, g⟩
    rcases Nat.lt_or_ge (U a) K with y | y
    · exact absurd (nI_U a).symm (h (U a) y)
    · exact y
set_option maxHeartbeats 4000000 in
theorem lw_1 {F : Type} [Lean.Grind.Field F] [DecidableEq F] {c : Int → F} (hc : cH pP c) {sgB : Nat → List Int32 → List Int32 → Bool} (hsg : ∀ e K G, sgB e K G = true ↔ sgO c e K G) (fu : Nat) (hfu : 2 ^ 257 ≤ fu) (cy : Nat → ClassId) (ad : Nat → Nat) (mi L : Nat) (xs : Nat → Int32) {k : Nat} (hk6 : 6 * k + 6 ≤ L) (hL : L < 2 ^ 30) {k_23 : Nat → Nat → Mm → Nat → Nat → Nat → Int32 → Prop} {κ σ : Nat} {P : Nat → Prop} {q : Nat → Nat} {C : Nat → va_E} {M : Mm} {S : Ab} {R : List Int32} {vl : Nat → Bool} {mk : Nat → Nat} {s : Ld} {cb : Nat} (h : lwS c sgB P q C M cy ad S R vl mk s cb) (room : κ + 1 ≤ 601024 ∧ σ + 6 ≤ 7293034) (hN : ∀ κ' σ' M' P' q' C' S' R' vl' mk' s' cb', lwS c sgB P' q' C' M' cy ad S' R' vl' mk' s' cb' → lwR S R s cb κ σ S' R' s' cb' κ' σ' → q' 103 = q 103 → q' 216 = q 216 → q' 136 = q 136 → k_23 κ' σ' M' (q 103) (q 216) (q 136) (nI (6 * k + 6))) : bnd ((nI (6 * k)) + (1 : Int32)) fun v40 => gdP (inb v40 L) <| bnd (xs v40.toNatClampNeg) fun v41 => ∃ mc42 ms43 : Nat, (κ + mc42 ≤ 601024 ∧ σ + ms43 ≤ 7293034) ∧ xw_mL_end fu mc42 ms43 cy ad mi (fun v45 M44 => bnd ((nI (6 * k)) + (1 : Int32)) fun v46 => gdP (inb v46 L) <| bnd (xs v46.toNatClampNeg) fun v47 => ∃ (b48 : Nat → Nat) (c49 : Nat → Int32), mal M44 [((q 216), .inr (12, mo b48 c49))] ∧ mnd (List.map (fun x : Nat × va_E => x.1) [((q 216), .inr (12, mo b48 c49))]) ∧ ∃ (v50 : Int32) (c51 : Nat → Int32), x_M_end fu v47 c49 = some (v50, c51) ∧ bnd (mov M44 [((q 216), .inr (12, mo b48 c51))]) fun M52 => ∃ (b53 : Nat → Nat) (c54 : Nat → Int32), mal M52 [((q 216), .inr (12, mo b53 c54))] ∧ mnd (List.map (fun x : Nat × va_E => x.1) [((q 216), .inr (12, mo b53 c54))]) ∧ ∃ (v55 : Int32), x_M_thrown fu c54 = some (v55) ∧ bnd (mov M52 [((q 216), .inr (12, mo b53 c54))]) fun M56 => if v55 = v45 then (if v45 = 0 then (maj M56 (q 136) (cy 2) (0 : Int32) fun v57 => if (lg_cmp v57 v50.toInt64) = 0 then (xv_mlaw_253 fu cy ad mi L xs k_23 (κ + mc42) (σ + ms43) M56 (q 103) (q 216) (q 136) (nI (6 * k))) else (False)) else (xv_mlaw_253 fu cy ad mi L xs k_23 (κ + mc42) (σ + ms43) M56 (q 103) (q 216) (q 136) (nI (6 * k)))) else (False)) 0 0 M (q 103) v41 (q 136) := by
  obtain ⟨hk, hp, hPm, ⟨z, A, Q, hr, hrs⟩, ⟨w, h136⟩⟩ := id h
  obtain ⟨hM, hq, hP, fs, h103⟩ := kpS_q hk
  have hrow := hrs.1
  have h3000 := rRow_0 hrow
  have hf40 := fu_ge hfu
  have m103 := g_at hM (hP 103 (by decide)) h103
  obtain ⟨⟨r, z'⟩, he, hz, hcs⟩ := v_M_end fu (xs (6 * k + 1)) hrow
  refine rdX (j := 1) (by omega) hL rfl ?_
  rcases hcs with ⟨n, c1, c2, c3, c4, c5⟩ | ⟨c1, c2, c3⟩
  · replace c3 : r = nI n := c3
    replace c4 : z' 2 = 0 := c4
    subst c3
    rw [c2]
    refine ⟨0, 0, by omega, Or.inr (m_ck m103 ⟨0, 0, ⟨Nat.le_refl _, Nat.le_refl _⟩, w_end fu 0 0 cy ad mi hk ⟨h3000.2, h3000.1⟩ c1 (fun M1 C1 hk1 hF1 => m_bn (e' := lN n) (iL (by omega)) ?_)⟩)⟩
    refine w_out hk1 ((hF1 136 (by decide)).trans h136) _ (fun M2 C2 w2 hM2 hk2 h1362 hw2 hF2 => ?_)
    refine rdX (j := 1) (by omega) hL rfl ?_
    refine w_Mend fu hM2 hq hPm (rfM_c hr (fun k a b => ⟨(hF2 k (by omega)).trans (hF1 k (by omega)), rfl⟩)) _ he _ (fun M3 C3 hM3 hr3 hF3 => ?_)
    refine w_tl fu (x := 0) hM3 hq hP hPm hr3 ((hF3 136 (by decide)).trans h1362) c4 (fun _ => hw2.trans (iL (by omega)).symm) _ (fun M4 C4 hM4 hr4 hF4 => ?_)
    have hrow' : rRow z' (A 0) (R.take n) := c5
    have hlen : (R.take n).length ≤ R.length := by rw [List.length_take]; omega
    have hk4 := kpS_c hk2 hM4 (fun k hk => (hF4 k (by omega)).trans (hF3 k (by omega)))
    exact fin662 (hN _ _ M4 P q C4 S (R.take n) vl mk s cb ⟨hk4, kpP_r hp (rRow_0 hrow'), hPm, ⟨z', _, Q, hr4, rSt_z hrs (zq_02 hz) (fun _ _ _ => rfl) rfl hrs.2.2.2.2.2.2.2 rfl hrow'⟩, ⟨w2, (hF4 136 (by decide)).trans ((hF3 136 (by decide)).trans h1362)⟩⟩ (lwR_0 (by omega) (by omega) (by omega)) rfl rfl rfl)
  · replace c2 : z' 2 = 1 := c2
    refine ⟨1, 6, by omega, Or.inl ⟨?_, ⟨by omega, by omega⟩, m_ck m103 ?_⟩⟩
    · obtain ⟨⟨-, -, ⟨ck', hK⟩, -⟩, -⟩ := id hk
      unfold xn_mK_end_A
      rcases ix_ge (K := R.length + 1) (fun n hn => c1 n (by omega)) with y | ⟨n, y1, y2, y3, y4⟩
      · exact m_t y trivial
      · refine m_f y4 (m_gi (g_at hM (hP 103 (by decide)) hK) rfl (m_f (fun x => ?_) trivial))
        rw [y3] at x
        have := (nI_leI (a := n) (b := R.length) (by omega) (by omega)).mp x
        omega
    refine rdX (j := 1) (by omega) hL rfl ?_
    refine w_Mend fu hM hq hPm hr _ he _ (fun M3 C3 hM3 hr3 hF3 => ?_)
    refine w_tl fu (x := 0) hM3 hq hP hPm hr3 ((hF3 136 (by decide)).trans h136) c2 (fun y => absurd y (by decide)) _ (fun M4 C4 hM4 hr4 hF4 => ?_)
    have hk4 := kpS_c hk hM4 (fun k hk => (hF4 k (by omega)).trans (hF3 k (by omega)))
    exact fin662 (hN _ _ M4 P q C4 S R vl mk s cb ⟨hk4, hp, hPm, ⟨z', _, Q, hr4, rSt_z hrs (zq_02 hz) (fun _ _ _ => rfl) rfl hrs.2.2.2.2.2.2.2 rfl c3⟩, ⟨w, (hF4 136 (by decide)).trans ((hF3 136 (by decide)).trans h136)⟩⟩ (lwR_0 (by omega) (by omega) (by omega)) rfl rfl rfl)
set_option maxHeartbeats 4000000 in
theorem lw_4 {F : Type} [Lean.Grind.Field F] [DecidableEq F] {c : Int → F} (hc : cH pP c) {sgB : Nat → List Int32 → List Int32 → Bool} (hsg : ∀ e K G, sgB e K G = true ↔ sgO c e K G) (fu : Nat) (hfu : 2 ^ 257 ≤ fu) (cy : Nat → ClassId) (ad : Nat → Nat) (mi L : Nat) (xs : Nat → Int32) {k : Nat} (hk6 : 6 * k + 6 ≤ L) (hL : L < 2 ^ 30) {k_23 : Nat → Nat → Mm → Nat → Nat → Nat → Int32 → Prop} {κ σ : Nat} {P : Nat → Prop} {q : Nat → Nat} {C : Nat → va_E} {M : Mm} {S : Ab} {R : List Int32} {vl : Nat → Bool} {mk : Nat → Nat} {s : Ld} {cb : Nat} (h : lwS c sgB P q C M cy ad S R vl mk s cb) (room : κ + 1 ≤ 601024 ∧ σ + 6 ≤ 7293034) (hN : ∀ κ' σ' M' P' q' C' S' R' vl' mk' s' cb', lwS c sgB P' q' C' M' cy ad S' R' vl' mk' s' cb' → lwR S R s cb κ σ S' R' s' cb' κ' σ' → q' 103 = q 103 → q' 216 = q 216 → q' 136 = q 136 → k_23 κ' σ' M' (q 103) (q 216) (q 136) (nI (6 * k + 6))) : bnd ((nI (6 * k)) + (1 : Int32)) fun v308 => gdP (inb v308 L) <| bnd (xs v308.toNatClampNeg) fun v309 => ∃ mc310 ms311 : Nat, (κ + mc310 ≤ 601024 ∧ σ + ms311 ≤ 7293034) ∧ xw_mL_hash fu mc310 ms311 cy ad mi (fun v313 M312 => bnd ((nI (6 * k)) + (1 : Int32)) fun v314 => gdP (inb v314 L) <| bnd (xs v314.toNatClampNeg) fun v315 => ∃ (b316 : Nat → Nat) (c317 : Nat → Int32) (c318 : Nat → Int32) (c319 : Nat → Int32) (c320 : Nat → Int32) (c321 : Nat → Int32) (c322 : Nat → Int32), mal M312 [((q 216), .inr (12, mo b316 c318)), ((b316 0), .inl (cy 0, 3000, .inl c317)), ((b316 34), .inl (cy 1, 8, .inl c319)), ((b316 35), .inl (cy 1, 64, .inl c320)), ((b316 36), .inl (cy 0, 32, .inl c321)), ((b316 37), .inl (cy 0, 100200, .inl c322))] ∧ mnd (List.map (fun x : Nat × va_E => x.1) [((q 216), .inr (12, mo b316 c318)), ((b316 0), .inl (cy 0, 3000, .inl c317)), ((b316 34), .inl (cy 1, 8, .inl c319)), ((b316 35), .inl (cy 1, 64, .inl c320)), ((b316 36), .inl (cy 0, 32, .inl c321)), ((b316 37), .inl (cy 0, 100200, .inl c322))]) ∧ ∃ (v323 : Int32) (c324 : Nat → Int32) (c325 : Nat → Int32) (c326 : Nat → Int32) (c327 : Nat → Int32) (c328 : Nat → Int32), x_M_hash fu c317 v315 c318 c319 c320 c321 c322 = some (v323, c324, c325, c326, c327, c328) ∧ bnd (mov M312 [((q 216), .inr (12, mo b316 c324)), ((b316 0), .inl (cy 0, 3000, .inl c317)), ((b316 34), .inl (cy 1, 8, .inl c325)), ((b316 35), .inl (cy 1, 64, .inl c326)), ((b316 36), .inl (cy 0, 32, .inl c327)), ((b316 37), .inl (cy 0, 100200, .inl c328))]) fun M329 => ∃ (b330 : Nat → Nat) (c331 : Nat → Int32), mal M329 [((q 216), .inr (12, mo b330 c331))] ∧ mnd (List.map (fun x : Nat × va_E => x.1) [((q 216), .inr (12, mo b330 c331))]) ∧ ∃ (v332 : Int32), x_M_thrown fu c331 = some (v332) ∧ bnd (mov M329 [((q 216), .inr (12, mo b330 c331))]) fun M333 => if v332 = v313 then (if v313 = 0 then (maj M333 (q 136) (cy 2) (0 : Int32) fun v334 => if (lg_cmp v334 v323.toInt64) = 0 then (xv_mlaw_416 fu cy ad mi L xs k_23 (κ + mc310) (σ + ms311) M333 (q 103) (q 216) (q 136) (nI (6 * k))) else (False)) else (xv_mlaw_416 fu cy ad mi L xs k_23 (κ + mc310) (σ + ms311) M333 (q 103) (q 216) (q 136) (nI (6 * k)))) else (False)) 0 0 M (q 103) v309 (q 136) := by
  obtain ⟨hk, hp, hPm, ⟨z, A, Q, hr, hrs⟩, ⟨w, h136⟩⟩ := id h
  obtain ⟨hM, hq, hP, fs, h103⟩ := kpS_q hk
  have hrow := hrs.1
  have h3000 := rRow_0 hrow
  have hf40 := fu_ge hfu
  have m103 := g_at hM (hP 103 (by decide)) h103
  obtain ⟨⟨r, z', g1, g2, g3, g4⟩, he, hz, hrow', hcs⟩ := v_M_hash fu (by omega) (xs (6 * k + 1)) hrow (A 34) (A 35) (A 36) (A 37)
  refine rdX (j := 1) (by omega) hL rfl ?_
  rcases hcs with ⟨n, c1, c2, c4, c3⟩ | ⟨c1, c2⟩
  · replace c4 : z' 2 = 0 := c4
    rw [c2]
    refine ⟨0, 0, by omega, Or.inr (m_ck m103 ⟨0, 0, ⟨Nat.le_refl _, Nat.le_refl _⟩, w_hash fu 0 0 cy ad mi (by omega) hk ⟨h3000.2, h3000.1⟩ c1 (fun M1 C1 hk1 hF1 => m_b ?_)⟩)⟩
    refine w_out hk1 ((hF1 136 (by decide)).trans h136) _ (fun M2 C2 w2 hM2 hk2 h1362 hw2 hF2 => ?_)
    refine rdX (j := 1) (by omega) hL rfl ?_
    refine w_Mhash fu hM2 hq hPm (rfM_c hr (fun k a b => ⟨(hF2 k (by omega)).trans (hF1 k (by omega)), rfl⟩)) _ he _ (fun M3 C3 hM3 hr3 hF3 => ?_)
    refine w_tl fu (x := 0) hM3 hq hP hPm hr3 ((hF3 136 (by decide)).trans h1362) c4 (fun _ => hw2.trans (congrArg Int32.toInt64 c3.symm)) _ (fun M4 C4 hM4 hr4 hF4 => ?_)
    have hk4 := kpS_c hk2 hM4 (fun k hk => (hF4 k (by omega)).trans (hF3 k (by omega)))
    exact fin662 (hN _ _ M4 P q C4 S R vl mk s cb ⟨hk4, hp, hPm, ⟨z', _, Q, hr4, rSt_z hrs (zq_02 hz) (fun i a b => by rw [up_n (by omega), up_n (by omega), up_n (by omega), up_n (by omega)]) (by rw [up_n (by decide), up_n (by decide), up_n (by decide), up_n (by decide)]) (by rw [up_n (by decide), up_n (by decide), up_n (by decide), up_n (by decide)]; exact hrs.2.2.2.2.2.2.2) (by rw [up_n (by decide), up_n (by decide), up_n (by decide), up_n (by decide)]) (by rw [up_n (by decide), up_n (by decide), up_n (by decide), up_n (by decide)]; exact hrow')⟩, ⟨w2, (hF4 136 (by decide)).trans ((hF3 136 (by decide)).trans h1362)⟩⟩ (lwR_0 (by omega) (by omega) (by omega)) rfl rfl rfl)
  · replace c2 : z' 2 = 1 := c2
    refine ⟨1, 6, by omega, Or.inl ⟨?_, ⟨by omega, by omega⟩, m_ck m103 ?_⟩⟩
    · unfold xn_mK_hash_A
      rcases ix_ge (K := 8) c1 with y | ⟨n, y1, y2, y3, y4⟩
      · exact m_t y trivial
      · refine m_f y4 (m_f (fun x => ?_) trivial)
        rw [y3] at x
        have := (nI_leI (a := n) (b := 7) (by omega) (by omega)).mp x
        omega
    refine rdX (j := 1) (by omega) hL rfl ?_
    refine w_Mhash fu hM hq hPm hr _ he _ (fun M3 C3 hM3 hr3 hF3 => ?_)
    refine w_tl fu (x := 0) hM3 hq hP hPm hr3 ((hF3 136 (by decide)).trans h136) c2 (fun y => absurd y (by decide)) _ (fun M4 C4 hM4 hr4 hF4 => ?_)
    have hk4 := kpS_c hk hM4 (fun k hk => (hF4 k (by omega)).trans (hF3 k (by omega)))
    exact fin662 (hN _ _ M4 P q C4 S R vl mk s cb ⟨hk4, hp, hPm, ⟨z', _, Q, hr4, rSt_z hrs (zq_02 hz) (fun i a b => by rw [up_n (by omega), up_n (by omega), up_n (by omega), up_n (by omega)]) (by rw [up_n (by decide), up_n (by decide), up_n (by decide), up_n (by decide)]) (by rw [up_n (by decide), up_n (by decide), up_n (by decide), up_n (by decide)]; exact hrs.2.2.2.2.2.2.2) (by rw [up_n (by decide), up_n (by decide), up_n (by decide), up_n (by decide)]) (by rw [up_n (by decide), up_n (by decide), up_n (by decide), up_n (by decide)]; exact hrow')⟩, ⟨w, (hF4 136 (by decide)).trans ((hF3 136 (by decide)).trans h136)⟩⟩ (lwR_0 (by omega) (by omega) (by omega)) rfl rfl rfl)
set_option maxHeartbeats 4000000 in
theorem lw_5 {F : Type} [Lean.Grind.Field F] [DecidableEq F] {c : Int → F} (hc : cH pP c) {sgB : Nat → List Int32 → List Int32 → Bool} (hsg : ∀ e K G, sgB e K G = true ↔ sgO c e K G) (fu : Nat) (hfu : 2 ^ 257 ≤ fu) (cy : Nat → ClassId) (ad : Nat → Nat) (mi L : Nat) (xs : Nat → Int32) {k : Nat} (hk6 : 6 * k + 6 ≤ L) (hL : L < 2 ^ 30) {k_23 : Nat → Nat → Mm → Nat → Nat → Nat → Int32 → Prop} {κ σ : Nat} {P : Nat → Prop} {q : Nat → Nat} {C : Nat → va_E} {M : Mm} {S : Ab} {R : List Int32} {vl : Nat → Bool} {mk : Nat → Nat} {s : Ld} {cb : Nat} (h : lwS c sgB P q C M cy ad S R vl mk s cb) (room : κ + 1 ≤ 601024 ∧ σ + 6 ≤ 7293034) (hN : ∀ κ' σ' M' P' q' C' S' R' vl' mk' s' cb', lwS c sgB P' q' C' M' cy ad S' R' vl' mk' s' cb' → lwR S R s cb κ σ S' R' s' cb' κ' σ' → q' 103 = q 103 → q' 216 = q 216 → q' 136 = q 136 → k_23 κ' σ' M' (q 103) (q 216) (q 136) (nI (6 * k + 6))) : bnd ((nI (6 * k)) + (1 : Int32)) fun v335 => gdP (inb v335 L) <| bnd (xs v335.toNatClampNeg) fun v336 => ∃ mc337 ms338 : Nat, (κ + mc337 ≤ 601024 ∧ σ + ms338 ≤ 7293034) ∧ xw_mL_tip fu mc337 ms338 cy ad mi (fun v340 M339 => bnd ((nI (6 * k)) + (1 : Int32)) fun v341 => gdP (inb v341 L) <| bnd (xs v341.toNatClampNeg) fun v342 => ∃ (b343 : Nat → Nat) (c344 : Nat → Int32) (c345 : Nat → Int32) (c346 : Nat → Int32) (c347 : Nat → Int32) (c348 : Nat → Int32) (c349 : Nat → Int32) (c350 : Nat → Int32) (c351 : Nat → Int32), mal M339 [((q 216), .inr (12, mo b343 c349)), ((b343 3), .inl (cy 1, 202, .inl c344)), ((b343 4), .inl (cy 1, 202, .inl c345)), ((b343 5), .inl (cy 1, 202, .inl c346)), ((b343 6), .inl (cy 1, 202, .inl c347)), ((b343 9), .inl (cy 1, 1616, .inl c348)), ((b343 38), .inl (cy 1, 8, .inl c350)), ((b343 44), .inl (cy 1, 8, .inl c351))] ∧ mnd (List.map (fun x : Nat × va_E => x.1) [((q 216), .inr (12, mo b343 c349)), ((b343 3), .inl (cy 1, 202, .inl c344)), ((b343 4), .inl (cy 1, 202, .inl c345)), ((b343 5), .inl (cy 1, 202, .inl c346)), ((b343 6), .inl (cy 1, 202, .inl c347)), ((b343 9), .inl (cy 1, 1616, .inl c348)), ((b343 38), .inl (cy 1, 8, .inl c350)), ((b343 44), .inl (cy 1, 8, .inl c351))]) ∧ ∃ (v352 : Int32) (c353 : Nat → Int32) (c354 : Nat → Int32) (c355 : Nat → Int32), x_M_tip fu c344 c345 c346 c347 c348 v342 c349 c350 c351 = some (v352, c353, c354, c355) ∧ bnd (mov M339 [((q 216), .inr (12, mo b343 c353)), ((b343 3), .inl (cy 1, 202, .inl c344)), ((b343 4), .inl (cy 1, 202, .inl c345)), ((b343 5), .inl (cy 1, 202, .inl c346)), ((b343 6), .inl (cy 1, 202, .inl c347)), ((b343 9), .inl (cy 1, 1616, .inl c348)), ((b343 38), .inl (cy 1, 8, .inl c354)), ((b343 44), .inl (cy 1, 8, .inl c355))]) fun M356 => ∃ (b357 : Nat → Nat) (c358 : Nat → Int32), mal M356 [((q 216), .inr (12, mo b357 c358))] ∧ mnd (List.map (fun x : Nat × va_E => x.1) [((q 216), .inr (12, mo b357 c358))]) ∧ ∃ (v359 : Int32), x_M_thrown fu c358 = some (v359) ∧ bnd (mov M356 [((q 216), .inr (12, mo b357 c358))]) fun M360 => if v359 = v340 then (if v340 = 0 then (maj M360 (q 136) (cy 2) (0 : Int32) fun v361 => if (lg_cmp v361 v352.toInt64) = 0 then (xv_mlaw_472 fu cy ad mi L xs k_23 (κ + mc337) (σ + ms338) M360 (q 103) (q 216) (q 136) (nI (6 * k))) else (False)) else (xv_mlaw_472 fu cy ad mi L xs k_23 (κ + mc337) (σ + ms338) M360 (q 103) (q 216) (q 136) (nI (6 * k)))) else (False)) 0 0 M (q 103) v336 (q 136) := by
  obtain ⟨hk, hp, hPm, ⟨z, A, Q, hr, hrs⟩, ⟨w, h136⟩⟩ := id h
  obtain ⟨hM, hq, hP, fs, h103⟩ := kpS_q hk
  have hrow := hrs.1
  have h3000 := rRow_0 hrow
  have hf40 := fu_ge hfu
  have m103 := g_at hM (hP 103 (by decide)) h103
  have hI := hrs.2.1
  have hC1 := hrs.2.2.1
  have hz4 := hrs.2.2.2.2.2.2.1.1
  have htip : S.2.2.2.2.2.2.2.1 < S.1 := hI.2.2.2.2.2.2.2.1.1
  have hnb : S.1 ≤ 58 := hI.1.2
  obtain ⟨⟨r, z', g1, g2⟩, he, hz, hrow', hcs⟩ := v_M_tip fu (by omega) (xs (6 * k + 1)) hrow htip (by omega) hC1.1 hC1.2.1 hz4 (A 38) (A 44)
  refine rdX (j := 1) (by omega) hL rfl ?_
  rcases hcs with ⟨n, c1, c2, c4, c3⟩ | ⟨c1, c2⟩
  · replace c4 : z' 2 = 0 := c4
    rw [c2]
    refine ⟨0, 0, by omega, Or.inr (m_ck m103 ⟨0, 0, ⟨Nat.le_refl _, Nat.le_refl _⟩, w_tip fu 0 0 cy ad mi (by omega) hk hI c1 ⟨Nat.le_refl _, Nat.le_refl _⟩ (fun y M1 hy hk1 => m_b ?_)⟩)⟩
    have ey : y = r := tpA_u hy c3
    refine w_out hk1 h136 _ (fun M2 C2 w2 hM2 hk2 h1362 hw2 hF2 => ?_)
    refine rdX (j := 1) (by omega) hL rfl ?_
    refine w_Mtip fu hM2 hq hPm (rfM_c hr (fun k a b => ⟨hF2 k (by omega), rfl⟩)) _ he _ (fun M3 C3 hM3 hr3 hF3 => ?_)
    refine w_tl fu (x := 0) hM3 hq hP hPm hr3 ((hF3 136 (by decide)).trans h1362) c4 (fun _ => hw2.trans (congrArg Int32.toInt64 ey)) _ (fun M4 C4 hM4 hr4 hF4 => ?_)
    have hk4 := kpS_c hk2 hM4 (fun k hk => (hF4 k (by omega)).trans (hF3 k (by omega)))
    exact fin662 (hN _ _ M4 P q C4 S R vl mk s cb ⟨hk4, hp, hPm, ⟨z', _, Q, hr4, rSt_z hrs (zq_02 hz) (fun i a b => by rw [up_n (by omega), up_n (by omega)]) (by rw [up_n (by decide), up_n (by decide)]) (by rw [up_n (by decide), up_n (by decide)]; exact hrs.2.2.2.2.2.2.2) (by rw [up_n (by decide), up_n (by decide)]) (by rw [up_n (by decide), up_n (by decide)]; exact hrow')⟩, ⟨w2, (hF4 136 (by decide)).trans ((hF3 136 (by decide)).trans h1362)⟩⟩ (lwR_0 (by omega) (by omega) (by omega)) rfl rfl rfl)
  · replace c2 : z' 2 = 1 := c2
    refine ⟨1, 6, by omega, Or.inl ⟨?_, ⟨by omega, by omega⟩, m_ck m103 ?_⟩⟩
    · unfold xn_mK_tip_A
      rcases ix_ge (K := 12) c1 with y | ⟨n, y1, y2, y3, y4⟩
      · exact m_t y trivial
      · refine m_f y4 (m_f (fun x => ?_) trivial)
        rw [y3] at x
        have := (nI_leI (a := n) (b := 11) (by omega) (by omega)).mp x
        omega
    refine rdX (j := 1) (by omega) hL rfl ?_
    refine w_Mtip fu hM hq hPm hr _ he _ (fun M3 C3 hM3 hr3 hF3 => ?_)
    refine w_tl fu (x := 0) hM3 hq hP hPm hr3 ((hF3 136 (by decide)).trans h136) c2 (fun y => absurd y (by decide)) _ (fun M4 C4 hM4 hr4 hF4 => ?_)
    have hk4 := kpS_c hk hM4 (fun k hk => (hF4 k (by omega)).trans (hF3 k (by omega)))
    exact fin662 (hN _ _ M4 P q C4 S R vl mk s cb ⟨hk4, hp, hPm, ⟨z', _, Q, hr4, rSt_z hrs (zq_02 hz) (fun i a b => by rw [up_n (by omega), up_n (by omega)]) (by rw [up_n (by decide), up_n (by decide)]) (by rw [up_n (by decide), up_n (by decide)]; exact hrs.2.2.2.2.2.2.2) (by rw [up_n (by decide), up_n (by decide)]) (by rw [up_n (by decide), up_n (by decide)]; exact hrow')⟩, ⟨w, (hF4 136 (by decide)).trans ((hF3 136 (by decide)).trans h136)⟩⟩ (lwR_0 (by omega) (by omega) (by omega)) rfl rfl rfl)
