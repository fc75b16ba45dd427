-- a branch with more work is tried: block by block
set_option maxHeartbeats 4000000 in
theorem sb_st {F : Type} [Lean.Grind.Field F] [DecidableEq F] {c : Int → F} (hc : cH pP c) {sgB : Nat → List Int32 → List Int32 → Bool} {rw : Nat → List Int32} {par hgt tim : Nat → Nat} {nb N : Nat} (hp : ∀ k, 0 < k → par k < k) (hh : hgt 0 = 0 ∧ ∀ k, 0 < k → k < nb → hgt k = hgt (par k) + 1) (hA : bkA rw hgt tim nb) (hNB : ∀ x, x < nb → sumL (hBn rw) (wy par x) ≤ N) (hN : 2 * N + 10 ≤ 60000) (hO : oK rw nb) (hh60 : ∀ k, k < nb → hgt k ≤ 60) (hnb : nb ≤ 200) (hsg : ∀ e K G, sgB e K G = true ↔ sgO c e K G) {bit : Nat → Int32} {bad vl : Nat → Bool} {tip b z n h r : Nat} {V : List Cn} (htip : tip < nb) (hb : b < nb) (hhr : h + (r + 1) = hgt b) (hn : n = up par (hgt b - (h + 1)) b) {mk : Nat → Nat} {s : Ld} (hJ : wJ sgB rw par hgt nb N mk s (par n) V) {T w code : Nat} (hT : cnT rw hgt n V T w) (hN2 : s.2.1.length + nIn (TLb rw n) + 2 * nOut (TLb rw n) ≤ N) (hcd : (vl n = true → code = w) ∧ (vl n = false → (((∀ t, 0 < t → t < T → scA sgB rw n t (Uq rw hgt n V t)) → code = w) ∧ ((¬ ∀ t, 0 < t → t < T → scA sgB rw n t (Uq rw hgt n V t)) → code = 13)))) (hw : w < 100) (fu MC MS : Nat) (cy : Nat → ClassId) (ad : Nat → Nat) (mi : Nat) (P0 : Nat → Prop) (q0 : Nat → Nat) (C0 : Nat → va_E) (P : Nat → Prop) (q : Nat → Nat) (C : Nat → va_E) (M : Mm) (κ σ : Nat) (k111 : Nat → Nat → Mm → Nat → Nat → Nat → Int32 → Prop) (Φ : Int32 → Mm → Prop) (rl tk : Int32) (cb : Nat) (hfu : 2 * N + 20000 ≤ fu) (hK : kBd c P q C M cy ad nb par hgt tim bit bad rw vl mk s rl tk tip cb) (hF : sbF P0 q0 C0 P q C) (hκ : κ + grS s (Sq rw n s T) ≤ MC ∧ σ + 4 * grS s (Sq rw n s T) ≤ MS) (hR : ∀ M' P' q' C' κ' σ', kBd c P' q' C' M' cy ad nb par hgt tim bit bad rw vl (mkC rw mk n T s) (Sq rw n s T) rl tk tip cb → sbF P0 q0 C0 P' q' C' → κ' = κ + grS s (Sq rw n s T) → σ' = σ + 4 * grS s (Sq rw n s T) → xv_mK_submit_153 fu MC MS cy ad mi Φ k111 κ' σ' M' (q0 103) (nI code) (q0 (kB b)) (q0 (kB z)) (nI (h + 1)) (q0 (kB n))) : xv_mK_submit_111 fu MC MS cy ad mi Φ k111 κ σ M (q0 103) (q0 (kB b)) (q0 (kB z)) (nI (h + 1)) := by
  obtain ⟨n0, n1, n2, n3⟩ := wy_up hp hh hb (h := h) (by omega)
  rw [← hn] at n0 n1 n2 n3
  have hbk := hA.2 n n0 n1
  unfold xv_mK_submit_111
  obtain ⟨hM, hS', ⟨ck', hK'⟩, hly, ⟨f, h134⟩, hmc, hal⟩ := id hK
  obtain ⟨sl, hS⟩ := id hS'
  obtain ⟨⟨p0, -⟩, c0, -⟩ := hS.2.1.1 b hb
  have h60 := hh60 b hb
  have e103 : q 103 = q0 103 := hF.2.2.1 103 (by decide) (by decide)
  have ke : ∀ x, q (kB x) = q0 (kB x) := fun x => hF.2.2.1 _ (by unfold kB; omega) (by unfold kB; omega)
  have m103 := g_at hM (hS.1.2.1 103 (by decide)) hK'
  have mb := g_at hM p0 c0
  rw [ke b] at mb
  rw [e103] at m103
  refine m_gi mb rfl (m_f (fun y => absurd ((nI_ltI (a := hgt b) (b := h + 1) (by omega) (by omega)).mp y) (by omega)) (m_ck mb ⟨0, 0, by omega, ?_⟩))
  unfold xw_mBl_ancestor
  rw [← ke b]
  refine w_anc fu 0 0 cy ad mi hM hS.2.1 hp hh (fun k hk => Nat.le_trans (hh60 k hk) (by decide)) (by omega) b fu hb (by omega) ⟨_, rfl, m_ck m103 ⟨grS s (Sq rw n s T), 4 * grS s (Sq rw n s T), by omega, ?_⟩⟩
  rw [← hn, ← e103]
  refine w_conn fu _ _ cy ad mi hN (by omega) hO hp hA hh60 htip n0 n1 hJ.1 hJ.2.2.2.1 hN2 hT hM hS' hK' hly h134 (by show 0 + grS s (Sq rw n s T) ≤ _ ∧ 0 + 4 * grS s (Sq rw n s T) ≤ _; omega) (fun M1 P1 q1 C1 hcn => ?_)
  obtain ⟨k1, k2⟩ := kBd_cn (mk := mk) hmc hal hcn
  obtain ⟨hM1, hS1, hK1, ⟨u3, u4, u5, u6, u7, u8, u9, u10, u11, hl1⟩, ⟨f1, h1341, hf1⟩, -⟩ := hcn
  obtain ⟨sl1, hS1'⟩ := id hS1
  obtain ⟨⟨pn, -⟩, cn, -⟩ := hS1'.2.1.1 n n1
  have kn : q1 (kB n) = q (kB n) := k2.2.2.1 _ (by unfold kB; omega) (by unfold kB; omega)
  have k103 : q1 103 = q 103 := k2.2.2.1 _ (by decide) (by decide)
  have mn := g_at hM1 pn cn
  rw [kn] at mn
  have hF1 := sbF_t hF k2
  refine m_gi mn rfl ?_
  unfold bB
  by_cases g : vl n = true
  · rw [if_pos g]
    have hR' := hR M1 P1 q1 C1 (κ + 0 + grS s (Sq rw n s T)) (σ + 0 + 4 * grS s (Sq rw n s T)) k1 hF1 rfl rfl
    rw [hcd.1 g] at hR'
    rw [e103, ke b, ke n]
    exact m_f (by decide) hR'
  · rw [if_neg g]
    have g' : vl n = false := by
      cases h : vl n with
      | true => exact absurd h g
      | false => rfl
    have m1031 := g_at hM1 (hS1'.1.2.1 103 (by decide)) hK1
    rw [k103] at m1031
    refine m_t rfl (m_ck m1031 ⟨0, 0, by omega, ?_⟩)
    unfold xw_mK_scriptsHold
    rw [← k103]
    have hV : ∀ t, t < T → 0 < t → ∀ k, k < (txO rw n t).2.1.length → cVd rw nb ((spC rw n t (Uq rw hgt n V t)).getD k e_C) := fun t ht ht0 k hk => by
      have c0' := hT.2.1 t ht
      have hno : none ∉ spn rw n t (Uq rw hgt n V t) := fun y => by
        rw [(stp0_c (by omega)).1 y] at c0'
        exact absurd c0' (by decide)
      obtain ⟨x, y1, y2, -⟩ := spC_mem hno hk
      obtain ⟨i1, -, i3, -⟩ := Sq_I hJ.1 n1 hbk hJ.2.2.2.1 hN2 t (by have := hT.1; omega) (fun t' ht' => hT.2.1 t' (by omega))
      rw [y2]
      exact ldI_v i1 ((i3 x).mpr (fnd_in y1).1)
    have hTl := hT.1
    have hnn := bk_n hbk
    have h3000 := hbk.2.1
    refine w_sh2 hc fu 0 0 cy ad mi (by omega) hsg hS1'.1.1 hS1'.1.2.1 hS1'.2.1 hA n0 n1 hT.1 hK1 hl1 h1341 hf1 hV ⟨Nat.le_refl _, Nat.le_refl _⟩ (fun v M2 C2 hM2 hF2 hX2 hv => ?_) T 1 fu C1 M1 (by omega) (by omega) (by decide) hM1 (fun k _ => rfl) k1.2.2.2.2.2.1 (fun t' h1 h2 => absurd h2 (by omega))
    obtain ⟨k3, k4⟩ := kBd_f k1 hM2 hF2 hX2
    have hR' := hR M2 P1 q1 C2 (κ + 0 + grS s (Sq rw n s T) + 0) (σ + 0 + 4 * grS s (Sq rw n s T) + 0) k3 (sbF_t hF1 k4) rfl rfl
    rw [k103, e103, ke b, ke n]
    rcases hv with ⟨y, e⟩ | ⟨y, e⟩
    · subst e
      rw [(hcd.2 g').1 y] at hR'
      exact m_f (by decide) hR'
    · subst e
      rw [(hcd.2 g').2 y] at hR'
      exact m_t rfl hR'
set_option maxHeartbeats 400000 in
theorem cnT_100 {rw : Nat → List Int32} {hgt : Nat → Nat} {b : Nat} {U : List Cn} {T w : Nat} (h : cnT rw hgt b U T w) : w < 100 := by
  rcases h.2.2 with ⟨_, _, h6⟩ | ⟨_, h5⟩
  · rw [h6]
    unfold stp0
    repeat' split
    all_goals first | exact (by decide : (0 : Nat) < 100) | exact (by decide : (10 : Nat) < 100) | exact (by decide : (11 : Nat) < 100) | exact (by decide : (12 : Nat) < 100)
  · rw [h5]
    split <;> decide
set_option maxHeartbeats 4000000 in
theorem sb_lp {F : Type} [Lean.Grind.Field F] [DecidableEq F] {c : Int → F} (hc : cH pP c) {sgB : Nat → List Int32 → List Int32 → Bool} {rw : Nat → List Int32} {par hgt tim : Nat → Nat} {nb N : Nat} (hp : ∀ k, 0 < k → par k < k) (hh : hgt 0 = 0 ∧ ∀ k, 0 < k → k < nb → hgt k = hgt (par k) + 1) (hA : bkA rw hgt tim nb) (hNB : ∀ x, x < nb → sumL (hBn rw) (wy par x) ≤ N) (hN : 2 * N + 10 ≤ 60000) (hO : oK rw nb) (hh60 : ∀ k, k < nb → hgt k ≤ 60) (hnb : nb ≤ 200) (hsg : ∀ e K G, sgB e K G = true ↔ sgO c e K G) (bit : Nat → Int32) (bad : Nat → Bool) {tip i b z : Nat} {U : List Cn} (htip : tip < nb) (hU : evW sgB rw hgt (wy par tip) [] 0 i U) (hb : b < nb) (hzn : z < nb) (hzt : isA par hgt z tip) : ∀ r h mq s V vl, h + r = hgt b → vlI sgB rw par hgt nb vl → wJ sgB rw par hgt nb N mq s (up par (hgt b - h) b) V → isA par hgt z (up par (hgt b - h) b) → ∃ v bad' vl' mk' s' tp', sbO sgB rw par hgt nb N bad tip b U v bad' vl' mk' s' tp' ∧ leC s s' ∧ sbM c N nb par hgt tim bit bad rw vl tip b z r h mq s v bad' vl' mk' s' tp'
  | 0, h, mq, s, V, vl, hr, hvl, hJ, hz => by
    have e0 : hgt b - h = 0 := by omega
    rw [e0] at hJ
    replace hJ : wJ sgB rw par hgt nb N mq s b V := hJ
    obtain ⟨i', h5⟩ := hJ.2.2.2.2
    refine ⟨0, bad, vl, mq, s, b, ⟨hvl, Or.inl ⟨rfl, rfl, rfl, i', V, h5, hJ⟩⟩, leC_r s, ?_⟩
    intro fu MC MS cy ad mi P0 q0 C0 P q C M κ σ m Φ rl tk cb hfu hm hK hF hκ hΦ
    match m, hm with
    | m + 1, hm =>
      show xv_mK_submit_111 fu MC MS cy ad mi Φ (xw_mK_submit_111 fu MC MS cy ad mi Φ m) κ σ M (q0 103) (q0 (kB b)) (q0 (kB z)) (nI (h + 1))
      unfold xv_mK_submit_111
      obtain ⟨hM, hS', ⟨ck', hK'⟩, hly, ⟨f, h134⟩, hmc, hal⟩ := id hK
      obtain ⟨sl, hS⟩ := id hS'
      obtain ⟨⟨p0, -⟩, c0, -⟩ := hS.2.1.1 b hb
      have h60 := hh60 b hb
      have e103 : q 103 = q0 103 := hF.2.2.1 103 (by decide) (by decide)
      have ke : q (kB b) = q0 (kB b) := hF.2.2.1 _ (by unfold kB; omega) (by unfold kB; omega)
      have mb := g_at hM p0 c0
      rw [← e103, ← ke]
      refine m_gi mb rfl (m_t ((nI_ltI (a := hgt b) (b := h + 1) (by omega) (by omega)).mpr (by omega)) (g_pt hM hS.1.1 (hS.1.2.1 103 (by decide)) hK' (show 10 < 13 by decide) (fun M1 hM1 => ?_)))
      have n1 : ∀ {j}, j ≠ 103 → va_up C 103 (kpO q rl b tk ck') j = C j := fun h => up_n h
      refine hΦ M1 P q (va_up C 103 (kpO q rl b tk ck')) ⟨hM1, ldM_c hS' (fun k hk => n1 (by omega)), ⟨ck', up_e⟩, ?_, ⟨f, (n1 (by decide)).trans h134⟩, mcX_q hmc (fun k _ a _ _ => n1 a) (fun _ _ => rfl), alR_c hal (n1 (by decide)) (n1 (by decide))⟩ (sbF_t hF ⟨fun _ h => h, fun _ h => Or.inl h, fun _ _ _ => rfl, fun j _ a => n1 (by omega)⟩)
      obtain ⟨rv, i1, i2, i3, i4, i5, u3, u4, u5, u6, u7, u8, u9, u10, u11, a0, a1, a2, a3, a4, a5, a6, a7, a8, a9⟩ := hly
      exact ⟨rv, i1, i2, i3, i4, i5, u3, u4, u5, u6, u7, u8, u9, u10, u11, (n1 (by decide)).trans a0, (n1 (by decide)).trans a1, (n1 (by decide)).trans a2, (n1 (by decide)).trans a3, (n1 (by decide)).trans a4, (n1 (by decide)).trans a5, (n1 (by decide)).trans a6, (n1 (by decide)).trans a7, (n1 (by decide)).trans a8, (n1 (by decide)).trans a9⟩
  | r + 1, h, mq, s, V, vl, hr, hvl, hJ, hz => by
    obtain ⟨n0, n1, n2, n3⟩ := wy_up hp hh hb (h := h) (by omega)
    obtain ⟨n, hn⟩ : ∃ n, n = up par (hgt b - (h + 1)) b := ⟨_, rfl⟩
    rw [← hn] at n0 n1 n2 n3
    rw [← n3] at hJ hz
    have hnb2 : isA par hgt n b := ⟨hgt b - (h + 1), hn.symm, by omega⟩
    have hhn := hh.2 n n0 n1
    obtain ⟨T, w, hT⟩ := cnT_x rw hgt n V
    have hw := cnT_100 hT
    have hN2 : s.2.1.length + nIn (TLb rw n) + 2 * nOut (TLb rw n) ≤ N := by
      have hmk := (hJ.2.1 (par n) ⟨0, rfl, rfl⟩).2.2.1
      have hNn := hNB n n1
      rw [wy_s hp n0, sumL_ap, sumL_1] at hNn
      rw [← hJ.2.2.1]
      unfold hBn at hNn hmk
      omega
    -- it is good
    have GOOD : ∀ V', vld sgB rw hgt n V 0 V' → ((vl n = true → w = w) ∧ (vl n = false → (((∀ t, 0 < t → t < T → scA sgB rw n t (Uq rw hgt n V t)) → w = w) ∧ ((¬ ∀ t, 0 < t → t < T → scA sgB rw n t (Uq rw hgt n V t)) → w = 13)))) → ∃ v bad' vl' mk' s' tp', sbO sgB rw par hgt nb N bad tip b U v bad' vl' mk' s' tp' ∧ leC s s' ∧ sbM c N nb par hgt tim bit bad rw vl tip b z (r + 1) h mq s v bad' vl' mk' s' tp' := by
      intro V' hv hcd
      obtain ⟨t1, t2, t3, hJ2, l1, -⟩ := wJ_st hp hh hA hNB hJ n0 n1 rfl hT hv
      subst t1
      have hvl2 : vlI sgB rw par hgt nb (upB vl n true) := fun x hx hy => by
        by_cases e : x = n
        · subst e
          obtain ⟨j, hj⟩ := hJ2.2.2.2.2
          exact ⟨j, V', hj⟩
        · have : upB vl n true x = vl x := if_neg e
          rw [this] at hy
          exact hvl x hx hy
      obtain ⟨v, bad', vl', mk', s', tp', o1, o2, o3⟩ := sb_lp hc hp hh hA hNB hN hO hh60 hnb hsg bit bad htip hU hb hzn hzt r (h + 1) (mkC rw mq n T s) (Sq rw n s T) V' (upB vl n true) (by omega) hvl2 (by rw [← hn]; exact hJ2) (by rw [← hn]; exact (isA_s hhn).mpr (Or.inr hz))
      obtain ⟨l3, hg⟩ := leC_t l1 o2
      refine ⟨v, bad', vl', mk', s', tp', o1, l3, ?_⟩
      intro fu MC MS cy ad mi P0 q0 C0 P q C M κ σ m Φ rl tk cb hfu hm hK hF hκ hΦ
      rw [hg] at hκ
      match m, hm with
      | m + 1, hm =>
        refine sb_st hc hp hh hA hNB hN hO hh60 hnb hsg htip hb hr hn hJ hT hN2 hcd hw fu MC MS cy ad mi P0 q0 C0 P q C M κ σ _ Φ rl tk cb hfu hK hF (by omega) (fun M1 P1 q1 C1 κ' σ' hK1 hF1 eκ eσ => ?_)
        unfold xv_mK_submit_153
        obtain ⟨hM1, hS1, -⟩ := id hK1
        obtain ⟨sl1, hS1'⟩ := id hS1
        obtain ⟨⟨pn, -⟩, cn, -⟩ := hS1'.2.1.1 n n1
        have kn : q1 (kB n) = q0 (kB n) := hF1.2.2.1 _ (by unfold kB; omega) (by unfold kB; omega)
        rw [← kn]
        refine m_t rfl (g_pt hM1 hS1'.1.1 pn cn (show 10 < 12 by decide) (fun M2 hM2 => m_bn (e' := nI (h + 1 + 1)) (nI_add (h + 1) 1) ?_))
        have hS2 := ldM_s hS1 hO (x := n) (bad' := bad) (vl' := upB vl n true) (mk' := mkC rw mq n T s) (fun x hx => ⟨rfl, if_neg hx, rfl⟩)
        rw [show upB vl n true n = true from if_pos rfl] at hS2
        obtain ⟨k3, k4⟩ := kBd_b hK1 (C' := va_up C1 (kB n) (blO q1 par hgt tim bit n (bad n) true (mkC rw mq n T s n))) hM2 (fun j hj => up_n (by unfold kB; omega)) hS2
        exact o3 fu MC MS cy ad mi P0 q0 C0 P1 q1 _ M2 κ' σ' m Φ rl tk cb hfu (by omega) k3 (sbF_t hF1 k4) (by omega) hΦ
    -- it is bad
    have BAD : ∀ v W0, v ≠ 0 → vld sgB rw hgt n V v W0 → ((vl n = true → v = w) ∧ (vl n = false → (((∀ t, 0 < t → t < T → scA sgB rw n t (Uq rw hgt n V t)) → v = w) ∧ ((¬ ∀ t, 0 < t → t < T → scA sgB rw n t (Uq rw hgt n V t)) → v = 13)))) → ∃ v bad' vl' mk' s' tp', sbO sgB rw par hgt nb N bad tip b U v bad' vl' mk' s' tp' ∧ leC s s' ∧ sbM c N nb par hgt tim bit bad rw vl tip b z (r + 1) h mq s v bad' vl' mk' s' tp' := by
      intro v W0 hv0 hv hcd
      obtain ⟨mk', s', o1, o2, o3⟩ := sb_bad (c := c) hp hh hA hNB hN hO hh60 hnb bit bad hvl (h := h + 1) htip hU hb hzn hzt n0 n1 hnb2 hz hJ hv0 hv hT hN2
      have l1 := (Sq_I hJ.1 n1 (hA.2 n n0 n1) hJ.2.2.2.1 hN2 T hT.1 hT.2.1).2.1
      obtain ⟨l3, hg⟩ := leC_t l1 o2
      refine ⟨v, _, vl, mk', s', tip, o1, l3, ?_⟩
      intro fu MC MS cy ad mi P0 q0 C0 P q C M κ σ m Φ rl tk cb hfu hm hK hF hκ hΦ
      rw [hg] at hκ
      match m, hm with
      | m + 1, hm =>
        refine sb_st hc hp hh hA hNB hN hO hh60 hnb hsg htip hb hr hn hJ hT hN2 hcd hw fu MC MS cy ad mi P0 q0 C0 P q C M κ σ _ Φ rl tk cb hfu hK hF (by omega) (fun M1 P1 q1 C1 κ' σ' hK1 hF1 eκ eσ => ?_)
        exact o3 fu MC MS cy ad mi P0 q0 C0 P1 q1 C1 M1 κ' σ' _ Φ rl tk cb hfu hK1 hF1 (by omega) hΦ
    by_cases g : vl n = true
    · obtain ⟨j, W, hev⟩ := hvl n n1 g
      obtain ⟨V', hv, -⟩ := wJ_vl hp hh hA hNB hJ n0 rfl n1 ⟨0, rfl, rfl⟩ hev
      obtain ⟨t1, -, -, t4⟩ := vld_3 hT hv
      exact GOOD V' hv ⟨fun _ => rfl, fun y => by rw [g] at y; exact absurd y (by decide)⟩
    · by_cases hs : ∀ t, 0 < t → t < T → scA sgB rw n t (Uq rw hgt n V t)
      · have hv := vld_1 hT hs
        by_cases hw0 : w = 0
        · rw [hw0] at hv
          exact GOOD _ hv ⟨fun _ => rfl, fun _ => ⟨fun _ => rfl, fun y => absurd hs y⟩⟩
        · exact BAD w _ hw0 hv ⟨fun _ => rfl, fun _ => ⟨fun _ => rfl, fun y => absurd hs y⟩⟩
      · exact BAD 13 [] (by decide) (vld_2 hT hs []) ⟨fun y => absurd y g, fun _ => ⟨fun y => absurd y hs, fun _ => rfl⟩⟩
