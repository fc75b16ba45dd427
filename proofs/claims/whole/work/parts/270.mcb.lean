-- back to the branch that was left
/-- for every memory that holds this, the rest of comeBack -/
def cbM {F : Type} [Lean.Grind.Field F] [DecidableEq F] (c : Int → F) (N nb : Nat) (par hgt tim : Nat → Nat) (bit : Nat → Int32) (bad : Nat → Bool) (rw : Nat → List Int32) (vl : Nat → Bool) (tip r h : Nat) (mk : Nat → Nat) (s : Ld) (mk' : Nat → Nat) (s' : Ld) : Prop := ∀ (fu MC MS : Nat) (cy : Nat → ClassId) (ad : Nat → Nat) (mi : Nat) (P0 : Nat → Prop) (q0 : Nat → Nat) (C0 : Nat → va_E) (P : Nat → Prop) (q : Nat → Nat) (C : Nat → va_E) (M : Mm) (κ σ m : Nat) (Φ : Mm → Prop) (rl tk : Int32) (cb : Nat), 2 * N + 20000 ≤ fu → r < m → kBd c P q C M cy ad nb par hgt tim bit bad rw vl mk s rl tk tip cb → sbF P0 q0 C0 P q C → κ + grS s s' ≤ MC ∧ σ + 4 * grS s s' ≤ MS → (∀ M' P' q' C', kBd c P' q' C' M' cy ad nb par hgt tim bit bad rw vl mk' s' rl tk tip cb → sbF P0 q0 C0 P' q' C' → Φ M') → xw_mK_comeBack_18 fu MC MS cy ad mi Φ m κ σ M (q0 103) (nI (h + 1))
set_option maxHeartbeats 4000000 in
theorem cb_lp {F : Type} [Lean.Grind.Field F] [DecidableEq F] {c : Int → F} {sgB : Nat → List Int32 → List Int32 → Bool} {rw : Nat → List Int32} {par hgt tim : Nat → Nat} {nb N : Nat} (hp : ∀ k, 0 < k → par k < k) (hh : hgt 0 = 0 ∧ ∀ k, 0 < k → k < nb → hgt k = hgt (par k) + 1) (hA : bkA rw hgt tim nb) (hNB : ∀ x, x < nb → sumL (hBn rw) (wy par x) ≤ N) (hN : 2 * N + 10 ≤ 60000) (hO : oK rw nb) (hh60 : ∀ k, k < nb → hgt k ≤ 60) (hnb : nb ≤ 200) (bit : Nat → Int32) (bad : Nat → Bool) (vl : Nat → Bool) {tip i : Nat} {U : List Cn} (htip : tip < nb) (hU : evW sgB rw hgt (wy par tip) [] 0 i U) : ∀ r h mq s V, h + r = hgt tip → wJ sgB rw par hgt nb N mq s (up par (hgt tip - h) tip) V → ∃ mq' s', wJ sgB rw par hgt nb N mq' s' tip U ∧ leC s s' ∧ cbM c N nb par hgt tim bit bad rw vl tip r h mq s mq' s'
  | 0, h, mq, s, V, hr, hJ => by
    have e0 : hgt tip - h = 0 := by omega
    rw [e0] at hJ
    replace hJ : wJ sgB rw par hgt nb N mq s tip V := hJ
    have eV : V = U := by
      obtain ⟨j, h5⟩ := hJ.2.2.2.2
      exact (evW_u _ _ _ _ _ _ _ _ h5 hU).2.2 rfl
    subst eV
    refine ⟨mq, s, hJ, leC_r s, ?_⟩
    intro fu MC MS cy ad mi P0 q0 C0 P q C M κ σ m Φ rl tk cb hfu hm hK hF hκ hΦ
    match m, hm with
    | m + 1, hm =>
      show xv_mK_comeBack_18 fu MC MS cy ad mi Φ (xw_mK_comeBack_18 fu MC MS cy ad mi Φ m) κ σ M (q0 103) (nI (h + 1))
      unfold xv_mK_comeBack_18
      obtain ⟨hM, ⟨sl, hS⟩, ⟨ck', hK'⟩, -⟩ := id hK
      obtain ⟨⟨p0, -⟩, c0, -⟩ := hS.2.1.1 tip htip
      have h60 := hh60 tip htip
      rw [← hF.2.2.1 103 (by decide) (by decide)]
      exact m_gr (g_at hM (hS.1.2.1 103 (by decide)) hK') rfl (m_gi (g_at hM p0 c0) rfl (m_t ((nI_ltI (a := hgt tip) (b := h + 1) (by omega) (by omega)).mpr (by omega)) (hΦ M P q C hK hF)))
  | r + 1, h, mq, s, V, hr, hJ => by
    obtain ⟨n0, n1, n2, n3⟩ := wy_up hp hh htip (h := h) (by omega)
    obtain ⟨n, hn⟩ : ∃ n, n = up par (hgt tip - (h + 1)) tip := ⟨_, rfl⟩
    rw [← hn] at n0 n1 n2 n3
    rw [← n3] at hJ
    obtain ⟨V', hv, -⟩ := wJ_vl hp hh hA hNB hJ n0 rfl htip ⟨hgt tip - (h + 1), hn.symm, by omega⟩ hU
    obtain ⟨T, w, hT⟩ := cnT_x rw hgt n V
    obtain ⟨t1, t2, t3, hJ2, l1, hN2⟩ := wJ_st hp hh hA hNB hJ n0 n1 rfl hT hv
    subst t1
    obtain ⟨mq', s', hJ3, l2, hrest⟩ := cb_lp (c := c) hp hh hA hNB hN hO hh60 hnb bit bad vl htip hU r (h + 1) (mkC rw mq n T s) (Sq rw n s T) V' (by omega) (by rw [← hn]; exact hJ2)
    obtain ⟨l3, hg⟩ := leC_t l1 l2
    refine ⟨mq', s', hJ3, l3, ?_⟩
    intro fu MC MS cy ad mi P0 q0 C0 P q C M κ σ m Φ rl tk cb hfu hm hK hF hκ hΦ
    match m, hm with
    | m + 1, hm =>
      show xv_mK_comeBack_18 fu MC MS cy ad mi Φ (xw_mK_comeBack_18 fu MC MS cy ad mi Φ m) κ σ M (q0 103) (nI (h + 1))
      unfold xv_mK_comeBack_18
      obtain ⟨hM, hS', ⟨ck', hK'⟩, hly, ⟨f, h134⟩, hmc, hal⟩ := id hK
      obtain ⟨sl, hS⟩ := id hS'
      obtain ⟨⟨p0, -⟩, c0, -⟩ := hS.2.1.1 tip htip
      have h60 := hh60 tip htip
      rw [hg] at hκ
      have e103 : q 103 = q0 103 := hF.2.2.1 103 (by decide) (by decide)
      rw [← e103]
      have m103 := g_at hM (hS.1.2.1 103 (by decide)) hK'
      have mt := g_at hM p0 c0
      refine m_gr m103 rfl (m_gi mt rfl (m_f (fun z => absurd ((nI_ltI (a := hgt tip) (b := h + 1) (by omega) (by omega)).mp z) (by omega)) (m_gr m103 rfl (m_ck mt ⟨0, 0, by omega, ?_⟩))))
      unfold xw_mBl_ancestor
      refine w_anc fu 0 0 cy ad mi hM hS.2.1 hp hh (fun k hk => Nat.le_trans (hh60 k hk) (by decide)) (by omega) tip fu htip (by omega) ⟨_, rfl, m_ck m103 ⟨grS s (Sq rw n s T), 4 * grS s (Sq rw n s T), by omega, ?_⟩⟩
      rw [← hn]
      refine w_conn fu _ _ cy ad mi hN (by omega) hO hp hA hh60 htip n0 n1 hJ.1 hJ.2.2.2.1 hN2 hT hM hS' hK' hly h134 (by show 0 + grS s (Sq rw n s T) ≤ _ ∧ 0 + 4 * grS s (Sq rw n s T) ≤ _; omega) (fun M' P' q' C' hcn => ?_)
      obtain ⟨k1, k2⟩ := kBd_cn (mk := mq) hmc hal hcn
      refine m_bn (e' := nI (h + 1 + 1)) (nI_add (h + 1) 1) ?_
      rw [e103]
      exact hrest fu MC MS cy ad mi P0 q0 C0 P' q' C' M' _ _ m Φ rl tk cb hfu (by omega) k1 (sbF_t hF k2) (by omega) hΦ
set_option maxHeartbeats 400000 in
/-- comeBack -/
theorem cb_all {F : Type} [Lean.Grind.Field F] [DecidableEq F] {c : Int → F} {sgB : Nat → List Int32 → List Int32 → Bool} {rw : Nat → List Int32} {par hgt tim : Nat → Nat} {nb N : Nat} (hp : ∀ k, 0 < k → par k < k) (hh : hgt 0 = 0 ∧ ∀ k, 0 < k → k < nb → hgt k = hgt (par k) + 1) (hA : bkA rw hgt tim nb) (hNB : ∀ x, x < nb → sumL (hBn rw) (wy par x) ≤ N) (hN : 2 * N + 10 ≤ 60000) (hO : oK rw nb) (hh60 : ∀ k, k < nb → hgt k ≤ 60) (hnb : nb ≤ 200) (bit : Nat → Int32) (bad : Nat → Bool) (vl : Nat → Bool) {tip i top z : Nat} {U : List Cn} (htip : tip < nb) (hU : evW sgB rw hgt (wy par tip) [] 0 i U) {mk : Nat → Nat} {s : Ld} (h1 : ldI rw nb N s) (h2 : mkI sgB rw par hgt mk s.2.1 top) (hz : isA par hgt z top) (hzn : z < nb) (hzt : isA par hgt z tip) : ∃ mk' s', wJ sgB rw par hgt nb N mk' s' tip U ∧ leC s s' ∧ ∀ (fu MC MS : Nat) (cy : Nat → ClassId) (ad : Nat → Nat) (mi : Nat) (P : Nat → Prop) (q : Nat → Nat) (C : Nat → va_E) (M : Mm) (κ σ : Nat) (Φ : Mm → Prop) (rl tk : Int32) (cb : Nat), 2 * N + 20000 ≤ fu → kBd c P q C M cy ad nb par hgt tim bit bad rw vl mk s rl tk tip cb → κ + grS s s' ≤ MC ∧ σ + 4 * grS s s' ≤ MS → (∀ M' P' q' C', kBd c P' q' C' M' cy ad nb par hgt tim bit bad rw vl mk' s' rl tk tip cb → sbF P q C P' q' C' → Φ M') → xw_mK_comeBack fu MC MS cy ad mi Φ κ σ M (q 103) (q (kB z)) := by
  obtain ⟨hm, V, hJ, hcap⟩ := wJ_rb hp hh hA hNB h1 h2 hz
  obtain ⟨k, k1, k2⟩ := hzt
  obtain ⟨mk', s', hJ2, l2, hrest⟩ := cb_lp (c := c) hp hh hA hNB hN hO hh60 hnb bit bad vl htip hU k (hgt z) mk (rbN (s.2.1.length - mk z) s) V (by omega) (by rw [show hgt tip - hgt z = k from by omega, k1]; exact hJ)
  have l1 : leC s (rbN (s.2.1.length - mk z) s) := by
    unfold leC
    rw [hcap]
    exact ⟨Nat.le_refl _, Nat.le_refl _⟩
  have g1 : grS s (rbN (s.2.1.length - mk z) s) = 0 := by
    unfold grS
    rw [hcap]
    omega
  obtain ⟨l3, hg⟩ := leC_t l1 l2
  rw [g1, Nat.zero_add] at hg
  refine ⟨mk', s', hJ2, l3, ?_⟩
  intro fu MC MS cy ad mi P q C M κ σ Φ rl tk cb hfu hK hκ hΦ
  obtain ⟨hM, hS', ⟨ck', hK'⟩, hly, ⟨f, h134⟩, hmc, hal⟩ := id hK
  obtain ⟨sl, hS⟩ := id hS'
  obtain ⟨⟨p0, -⟩, c0, -⟩ := hS.2.1.1 z hzn
  have h60 := hh60 z hzn
  have m103 := g_at hM (hS.1.2.1 103 (by decide)) hK'
  unfold xw_mK_comeBack
  refine m_gr m103 rfl (m_gi (g_at hM p0 c0) rfl (m_ck (g_at hM (hS.1.2.1 130 (by decide)) hS.2.2.1) ⟨0, 0, by omega, ?_⟩))
  refine w_roll fu 0 0 cy ad mi hM hS' h1 hN (by omega) hO hp hm (by omega) (fun M1 P1 q1 C1 hM1 hS1 hF1 => ?_)
  have hF := sbF_c (coF_l hF1)
  obtain ⟨sl1, hS1'⟩ := id hS1
  obtain ⟨⟨p1, -⟩, c1, -⟩ := hS1'.2.1.1 z hzn
  have kz : 256 ≤ kB z := by unfold kB; omega
  have kt : 256 ≤ kB tip := by unfold kB; omega
  rw [← hF1.2.2.1 (kB z) (by omega) (by omega)]
  refine m_gi (g_at hM1 p1 c1) rfl (m_bn (e' := nI (hgt z + 1)) (nI_add _ 1) ?_)
  have hK1 : kBd c P1 q1 C1 M1 cy ad nb par hgt tim bit bad rw vl mk (rbN (s.2.1.length - mk z) s) rl tk tip cb := by
    refine ⟨hM1, hS1, ⟨ck', ?_⟩, ?_, ⟨f, (hF1.2.2.2 134 (by decide) (by decide) (by decide) (by decide) (by decide)).trans h134⟩, mcX_q hmc (fun k a _ _ _ => hF1.2.2.2 k (by omega) (by omega) (by omega) (by omega) (by omega)) (fun k hk => hF1.2.2.1 k (by omega) (by omega)), sbF_al hF hal⟩
    · exact (hF1.2.2.2 103 (by decide) (by decide) (by decide) (by decide) (by decide)).trans (hK'.trans (kpO_q (fun j hj => hF1.2.2.1 j (by omega) (by omega)) (hF1.2.2.1 _ (by omega) (by omega)) _ _ _).symm)
    · obtain ⟨rv, i1, i2, i3, i4, i5, u3, u4, u5, u6, u7, u8, u9, u10, u11, a0, a1, a2, a3, a4, a5, a6, a7, a8, a9⟩ := hly
      have n1 : ∀ j, 120 ≤ j → j < 130 → C1 j = C j := fun j h1 h2 => hF1.2.2.2 j (by omega) (by omega) (by omega) (by omega) (by omega)
      exact ⟨rv, i1, i2, i3, i4, i5, u3, u4, u5, u6, u7, u8, u9, u10, u11, (n1 120 (by decide) (by decide)).trans (a0.trans (laO_q (fun j _ _ => hF1.2.2.1 j (by omega) (by omega)) _ _ _ _ _ _).symm), (n1 121 (by decide) (by decide)).trans a1, (n1 122 (by decide) (by decide)).trans a2, (n1 123 (by decide) (by decide)).trans a3, (n1 124 (by decide) (by decide)).trans a4, (n1 125 (by decide) (by decide)).trans a5, (n1 126 (by decide) (by decide)).trans a6, (n1 127 (by decide) (by decide)).trans a7, (n1 128 (by decide) (by decide)).trans a8, (n1 129 (by decide) (by decide)).trans a9⟩
  have h60t := hh60 tip htip
  rw [hg] at hκ
  exact hrest fu MC MS cy ad mi P q C P1 q1 C1 M1 _ _ fu Φ rl tk cb hfu (by omega) hK1 hF (by omega) hΦ
