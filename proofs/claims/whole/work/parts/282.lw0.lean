-- the law's step: feed, end
def lwR (S : Ab) (R : List Int32) (s : Ld) (cb κ σ : Nat) (S' : Ab) (R' : List Int32) (s' : Ld) (cb' κ' σ' : Nat) : Prop := ∃ fed, κ' ≤ κ + 7 + fed + (cb' - cb) + grS s s' ∧ σ' ≤ σ + 200 + 10 * fed + 4 * ((cb' - cb) + grS s s') ∧ cb ≤ cb' ∧ leC s s' ∧ fed + R'.length ≤ R.length + 20 ∧ sBr S'.2.2.2.2.2.2.1 S'.1 + R'.length ≤ sBr S.2.2.2.2.2.2.1 S.1 + R.length + 20 ∧ 9 * (S'.1 - 1) + (R'.length + 19) / 20 ≤ 9 * (S.1 - 1) + (R.length + 19) / 20 + 1
set_option maxHeartbeats 1000000 in
theorem lwR_0 {S : Ab} {R R' : List Int32} {s : Ld} {cb κ σ κ' σ' : Nat} (h1 : κ' ≤ κ + 1) (h2 : σ' ≤ σ + 6) (h3 : R'.length ≤ R.length + 20) : lwR S R s cb κ σ S R' s cb κ' σ' := by
  refine ⟨0, by omega, by omega, Nat.le_refl _, leC_r s, by omega, by omega, by omega⟩
set_option maxHeartbeats 1000000 in
theorem rdX {xs : Nat → Int32} {k j L : Nat} (hj : 6 * k + j < L) (hL : L < 2 ^ 30) {J : Int32} (hJ : J = nI j) {K : Int32 → Prop} (h : K (xs (6 * k + j))) : bnd (nI (6 * k) + J) fun v => gdP (inb v L) <| bnd (xs v.toNatClampNeg) fun w => K w := by
  subst hJ
  refine m_bn (e' := nI (6 * k + j)) (nI_add _ _) ⟨inb_nI hj (by omega), ?_⟩
  show K (xs (nI (6 * k + j)).toNatClampNeg)
  rw [nI_clamp (n := 6 * k + j) (by omega)]
  exact h
set_option maxHeartbeats 1000000 in
theorem fu_ge {fu : Nat} (h : 2 ^ 257 ≤ fu) : 2 ^ 40 ≤ fu := Nat.le_trans (by decide) h
set_option maxHeartbeats 1000000 in
theorem rRow_0 {z row : Nat → Int32} {R : List Int32} (h : rRow z row R) : R.length ≤ 3000 ∧ ftB (lf R) := ⟨h.2.1, h.2.2.2.2⟩
set_option maxHeartbeats 1000000 in
theorem kpP_r {sgB : Nat → List Int32 → List Int32 → Bool} {S : Ab} {R R' : List Int32} {vl : Nat → Bool} {mk : Nat → Nat} {s : Ld} {cb : Nat} (h : kpP sgB S R vl mk s cb) (h1 : R'.length ≤ 3000 ∧ ftB (lf R')) : kpP sgB S R' vl mk s cb := ⟨h.1, h.2.1, h.2.2.1, h1, h.2.2.2.2⟩
set_option maxHeartbeats 1000000 in
theorem fin662 {fu : Nat} {cy : Nat → ClassId} {ad : Nat → Nat} {mi L : Nat} {xs : Nat → Int32} {k : Nat} {k_23 : Nat → Nat → Mm → Nat → Nat → Nat → Int32 → Prop} {κ σ : Nat} {M : Mm} {x1 x2 x3 : Nat} (h : k_23 κ σ M x1 x2 x3 (nI (6 * k + 6))) : xv_mlaw_662 fu cy ad mi L xs k_23 κ σ M x1 x2 x3 (nI (6 * k)) := m_bn (e' := nI (6 * k + 6)) (nI_add _ 6) h
set_option maxHeartbeats 4000000 in
theorem lw_0 {F : Type} [Lean.Grind.Field F] [DecidableEq F] {c : Int → F} (hc : cH pP c) {sgB : Nat → List Int32 → List Int32 → Bool} (hsg : ∀ e K G, sgB e K G = true ↔ sgO c e K G) (fu : Nat) (hfu : 2 ^ 257 ≤ fu) (cy : Nat → ClassId) (ad : Nat → Nat) (mi L : Nat) (xs : Nat → Int32) {k : Nat} (hk6 : 6 * k + 6 ≤ L) (hL : L < 2 ^ 30) {k_23 : Nat → Nat → Mm → Nat → Nat → Nat → Int32 → Prop} {κ σ : Nat} {P : Nat → Prop} {q : Nat → Nat} {C : Nat → va_E} {M : Mm} {S : Ab} {R : List Int32} {vl : Nat → Bool} {mk : Nat → Nat} {s : Ld} {cb : Nat} (h : lwS c sgB P q C M cy ad S R vl mk s cb) (room : κ + 1 ≤ 601024 ∧ σ + 6 ≤ 7293034) (hN : ∀ κ' σ' M' P' q' C' S' R' vl' mk' s' cb', lwS c sgB P' q' C' M' cy ad S' R' vl' mk' s' cb' → lwR S R s cb κ σ S' R' s' cb' κ' σ' → q' 103 = q 103 → q' 216 = q 216 → q' 136 = q 136 → k_23 κ' σ' M' (q 103) (q 216) (q 136) (nI (6 * k + 6))) : bnd ((nI (6 * k)) + (1 : Int32)) fun v4 => gdP (inb v4 L) <| bnd (xs v4.toNatClampNeg) fun v5 => bnd ((nI (6 * k)) + (2 : Int32)) fun v6 => gdP (inb v6 L) <| bnd (xs v6.toNatClampNeg) fun v7 => bnd ((nI (6 * k)) + (3 : Int32)) fun v8 => gdP (inb v8 L) <| bnd (xs v8.toNatClampNeg) fun v9 => bnd ((nI (6 * k)) + (4 : Int32)) fun v10 => gdP (inb v10 L) <| bnd (xs v10.toNatClampNeg) fun v11 => bnd ((nI (6 * k)) + (5 : Int32)) fun v12 => gdP (inb v12 L) <| bnd (xs v12.toNatClampNeg) fun v13 => ∃ mc14 ms15 : Nat, (κ + mc14 ≤ 601024 ∧ σ + ms15 ≤ 7293034) ∧ xw_mL_feed fu mc14 ms15 cy ad mi (fun v17 M16 => bnd ((nI (6 * k)) + (1 : Int32)) fun v18 => gdP (inb v18 L) <| bnd (xs v18.toNatClampNeg) fun v19 => bnd ((nI (6 * k)) + (2 : Int32)) fun v20 => gdP (inb v20 L) <| bnd (xs v20.toNatClampNeg) fun v21 => bnd ((nI (6 * k)) + (3 : Int32)) fun v22 => gdP (inb v22 L) <| bnd (xs v22.toNatClampNeg) fun v23 => bnd ((nI (6 * k)) + (4 : Int32)) fun v24 => gdP (inb v24 L) <| bnd (xs v24.toNatClampNeg) fun v25 => bnd ((nI (6 * k)) + (5 : Int32)) fun v26 => gdP (inb v26 L) <| bnd (xs v26.toNatClampNeg) fun v27 => ∃ (b28 : Nat → Nat) (c29 : Nat → Int32) (c30 : Nat → Int32), mal M16 [((q 216), .inr (12, mo b28 c29)), ((b28 0), .inl (cy 0, 3000, .inl c30))] ∧ mnd (List.map (fun x : Nat × va_E => x.1) [((q 216), .inr (12, mo b28 c29)), ((b28 0), .inl (cy 0, 3000, .inl c30))]) ∧ ∃ (v31 : Int32) (c32 : Nat → Int32) (c33 : Nat → Int32), x_M_feed fu v19 v21 v23 v25 v27 c29 c30 = some (v31, c32, c33) ∧ bnd (mov M16 [((q 216), .inr (12, mo b28 c32)), ((b28 0), .inl (cy 0, 3000, .inl c33))]) fun M34 => ∃ (b35 : Nat → Nat) (c36 : Nat → Int32), mal M34 [((q 216), .inr (12, mo b35 c36))] ∧ mnd (List.map (fun x : Nat × va_E => x.1) [((q 216), .inr (12, mo b35 c36))]) ∧ ∃ (v37 : Int32), x_M_thrown fu c36 = some (v37) ∧ bnd (mov M34 [((q 216), .inr (12, mo b35 c36))]) fun M38 => if v37 = v17 then (if v17 = 0 then (maj M38 (q 136) (cy 2) (0 : Int32) fun v39 => if (lg_cmp v39 v31.toInt64) = 0 then (xv_mlaw_197 fu cy ad mi L xs k_23 (κ + mc14) (σ + ms15) M38 (q 103) (q 216) (q 136) (nI (6 * k))) else (False)) else (xv_mlaw_197 fu cy ad mi L xs k_23 (κ + mc14) (σ + ms15) M38 (q 103) (q 216) (q 136) (nI (6 * k)))) else (False)) 0 0 M (q 103) v5 v7 v9 v11 v13 (q 136) := by
  obtain ⟨hk, hp, hPm, ⟨z, A, Q, hr, hrs⟩, ⟨w, h136⟩⟩ := id h
  obtain ⟨hM, hq, hP, fs, h103⟩ := kpS_q hk
  have hrow := hrs.1
  have h3000 := rRow_0 hrow
  have hf40 := fu_ge hfu
  have m103 := g_at hM (hP 103 (by decide)) h103
  obtain ⟨⟨r, z', g'⟩, he, hz, hcs⟩ := v_M_feed fu (by omega) (xs (6 * k + 1)) (xs (6 * k + 2)) (xs (6 * k + 3)) (xs (6 * k + 4)) (xs (6 * k + 5)) hrow
  refine rdX (j := 1) (by omega) hL rfl ?_
  refine rdX (j := 2) (by omega) hL rfl ?_
  refine rdX (j := 3) (by omega) hL rfl ?_
  refine rdX (j := 4) (by omega) hL rfl ?_
  refine rdX (j := 5) (by omega) hL rfl ?_
  rcases hcs with ⟨c1, c2, c3, c4⟩ | ⟨c1, c2, c3⟩
  · replace c2 : r = nI (R.length + 20) := c2
    subst c2
    refine ⟨0, 0, by omega, Or.inr (m_ck m103 ⟨0, 0, ⟨Nat.le_refl _, Nat.le_refl _⟩, w_feed fu 0 0 cy ad mi (by omega) hk ⟨h3000.2, c1⟩ (xs (6 * k + 1)) (xs (6 * k + 2)) (xs (6 * k + 3)) (xs (6 * k + 4)) (xs (6 * k + 5)) (fun M1 C1 hk1 hF1 => m_bn (e' := lN (R.length + 20)) (iL (by omega)) ?_)⟩)⟩
    refine w_out hk1 ((hF1 136 (by decide)).trans h136) _ (fun M2 C2 w2 hM2 hk2 h1362 hw2 hF2 => ?_)
    refine rdX (j := 1) (by omega) hL rfl ?_
    refine rdX (j := 2) (by omega) hL rfl ?_
    refine rdX (j := 3) (by omega) hL rfl ?_
    refine rdX (j := 4) (by omega) hL rfl ?_
    refine rdX (j := 5) (by omega) hL rfl ?_
    refine w_Mfeed fu hM2 hq hPm (rfM_c hr (fun k a b => ⟨(hF2 k (by omega)).trans (hF1 k (by omega)), rfl⟩)) _ _ _ _ _ he _ (fun M3 C3 hM3 hr3 hF3 => ?_)
    refine w_tl fu (x := 0) hM3 hq hP hPm hr3 ((hF3 136 (by decide)).trans h1362) c3 (fun _ => hw2.trans (iL (by omega)).symm) _ (fun M4 C4 hM4 hr4 hF4 => ?_)
    have hk4 := kpS_c hk2 hM4 (fun k hk => (hF4 k (by omega)).trans (hF3 k (by omega)))
    have hrow' : rRow z' g' (R ++ fd (xs (6 * k + 1)) (xs (6 * k + 2)) (xs (6 * k + 3)) (xs (6 * k + 4)) (xs (6 * k + 5))) := c4
    have hlen : (R ++ fd (xs (6 * k + 1)) (xs (6 * k + 2)) (xs (6 * k + 3)) (xs (6 * k + 4)) (xs (6 * k + 5))).length = R.length + 20 := by rw [List.length_append, fd_len]
    exact fin662 (hN _ _ M4 P q C4 S _ vl mk s cb ⟨hk4, kpP_r hp (rRow_0 hrow'), hPm, ⟨z', _, Q, hr4, rSt_z hrs (zq_02 hz) (fun i a _ => up_n a) (up_n (by decide)) (by rw [up_n (by decide)]; exact hrs.2.2.2.2.2.2.2) (up_n (by decide)) (by rw [up_e]; exact hrow')⟩, ⟨w2, (hF4 136 (by decide)).trans ((hF3 136 (by decide)).trans h1362)⟩⟩ (lwR_0 (by omega) (by omega) (by omega)) rfl rfl rfl)
  · replace c2 : z' 2 = 1 := c2
    refine ⟨1, 6, by omega, Or.inl ⟨?_, ⟨by omega, by omega⟩, m_ck m103 ?_⟩⟩
    · obtain ⟨⟨-, -, ⟨ck', hK⟩, -⟩, -⟩ := id hk
      exact m_gi (g_at hM (hP 103 (by decide)) hK) rfl (m_bn (e' := nI (R.length + 20)) (nI_add _ 20) (m_f (fun y => absurd ((nI_leI (a := R.length + 20) (b := 3000) (by omega) (by omega)).mp y) (by omega)) trivial))
    refine rdX (j := 1) (by omega) hL rfl ?_
    refine rdX (j := 2) (by omega) hL rfl ?_
    refine rdX (j := 3) (by omega) hL rfl ?_
    refine rdX (j := 4) (by omega) hL rfl ?_
    refine rdX (j := 5) (by omega) hL rfl ?_
    refine w_Mfeed fu hM hq hPm hr _ _ _ _ _ he _ (fun M3 C3 hM3 hr3 hF3 => ?_)
    refine w_tl fu (x := 0) hM3 hq hP hPm hr3 ((hF3 136 (by decide)).trans h136) c2 (fun y => absurd y (by decide)) _ (fun M4 C4 hM4 hr4 hF4 => ?_)
    have hk4 := kpS_c hk hM4 (fun k hk => (hF4 k (by omega)).trans (hF3 k (by omega)))
    exact fin662 (hN _ _ M4 P q C4 S R vl mk s cb ⟨hk4, hp, hPm, ⟨z', _, Q, hr4, rSt_z hrs (zq_02 hz) (fun i a _ => up_n a) (up_n (by decide)) (by rw [up_n (by decide)]; exact hrs.2.2.2.2.2.2.2) (up_n (by decide)) (by rw [up_e]; exact c3)⟩, ⟨w, (hF4 136 (by decide)).trans ((hF3 136 (by decide)).trans h136)⟩⟩ (lwR_0 (by omega) (by omega) (by omega)) rfl rfl rfl)
