-- a branch with more work is tried
/-- a valid block's way is good -/
def vlI (sgB : Nat → List Int32 → List Int32 → Bool) (rw : Nat → List Int32) (par hgt : Nat → Nat) (nb : Nat) (vl : Nat → Bool) : Prop := ∀ x, x < nb → vl x = true → ∃ j V, evW sgB rw hgt (wy par x) [] 0 j V
set_option maxHeartbeats 400000 in
theorem kBd_f {F : Type} [Lean.Grind.Field F] [DecidableEq F] {c : Int → F} {P : Nat → Prop} {q : Nat → Nat} {C C' : Nat → va_E} {M M' : Mm} {cy : Nat → ClassId} {ad : Nat → Nat} {nb : Nat} {par hgt tim : Nat → Nat} {bit : Nat → Int32} {bad : Nat → Bool} {rw : Nat → List Int32} {vl : Nat → Bool} {mk : Nat → Nat} {s : Ld} {rl tk : Int32} {tip cb : Nat} (h : kBd c P q C M cy ad nb par hgt tim bit bad rw vl mk s rl tk tip cb) (hM : RG P q C' M') (hF : fL C C') (hm : mcX c C' q cy) : kBd c P q C' M' cy ad nb par hgt tim bit bad rw vl mk s rl tk tip cb ∧ sbF P q C P q C' := by
  obtain ⟨-, hS, ⟨ck', hK⟩, hly, ⟨f, h134⟩, -, hal⟩ := h
  have e : ∀ j, 120 ≤ j → C' j = C j := fun j hj => hF j (Or.inr hj)
  refine ⟨⟨hM, ldM_c hS (fun k hk => e k (by omega)), ⟨ck', (hF 103 (by decide)).trans hK⟩, ?_, ⟨f, (e 134 (by decide)).trans h134⟩, hm, alR_c hal (e 133 (by decide)) (e 222 (by decide))⟩, ⟨fun _ h => h, fun _ h => Or.inl h, fun _ _ _ => rfl, fun j a b => hF j (by omega)⟩⟩
  obtain ⟨rv, i1, i2, i3, i4, i5, u3, u4, u5, u6, u7, u8, u9, u10, u11, a0, a1, a2, a3, a4, a5, a6, a7, a8, a9⟩ := hly
  exact ⟨rv, i1, i2, i3, i4, i5, u3, u4, u5, u6, u7, u8, u9, u10, u11, (e 120 (by decide)).trans a0, (e 121 (by decide)).trans a1, (e 122 (by decide)).trans a2, (e 123 (by decide)).trans a3, (e 124 (by decide)).trans a4, (e 125 (by decide)).trans a5, (e 126 (by decide)).trans a6, (e 127 (by decide)).trans a7, (e 128 (by decide)).trans a8, (e 129 (by decide)).trans a9⟩
set_option maxHeartbeats 400000 in
/-- cells of blocks alone change -/
theorem kBd_b {F : Type} [Lean.Grind.Field F] [DecidableEq F] {c : Int → F} {P : Nat → Prop} {q : Nat → Nat} {C C' : Nat → va_E} {M M' : Mm} {cy : Nat → ClassId} {ad : Nat → Nat} {nb : Nat} {par hgt tim : Nat → Nat} {bit : Nat → Int32} {bad bad' : Nat → Bool} {rw : Nat → List Int32} {vl vl' : Nat → Bool} {mk mk' : Nat → Nat} {s : Ld} {rl tk : Int32} {tip cb : Nat} (h : kBd c P q C M cy ad nb par hgt tim bit bad rw vl mk s rl tk tip cb) (hM : RG P q C' M') (hF : ∀ j, j < 256 → C' j = C j) (hS : ldM P q C' cy ad nb par hgt tim bit bad' rw vl' mk' s) : kBd c P q C' M' cy ad nb par hgt tim bit bad' rw vl' mk' s rl tk tip cb ∧ sbF P q C P q C' := by
  obtain ⟨-, -, ⟨ck', hK⟩, hly, ⟨f, h134⟩, hmc, hal⟩ := h
  refine ⟨⟨hM, hS, ⟨ck', (hF 103 (by decide)).trans hK⟩, ?_, ⟨f, (hF 134 (by decide)).trans h134⟩, mcX_q hmc (fun k a _ _ _ => hF k (by omega)) (fun _ _ => rfl), alR_c hal (hF 133 (by decide)) (hF 222 (by decide))⟩, ⟨fun _ h => h, fun _ h => Or.inl h, fun _ _ _ => rfl, fun j a b => hF j a⟩⟩
  obtain ⟨rv, i1, i2, i3, i4, i5, u3, u4, u5, u6, u7, u8, u9, u10, u11, a0, a1, a2, a3, a4, a5, a6, a7, a8, a9⟩ := hly
  exact ⟨rv, i1, i2, i3, i4, i5, u3, u4, u5, u6, u7, u8, u9, u10, u11, (hF 120 (by decide)).trans a0, (hF 121 (by decide)).trans a1, (hF 122 (by decide)).trans a2, (hF 123 (by decide)).trans a3, (hF 124 (by decide)).trans a4, (hF 125 (by decide)).trans a5, (hF 126 (by decide)).trans a6, (hF 127 (by decide)).trans a7, (hF 128 (by decide)).trans a8, (hF 129 (by decide)).trans a9⟩
/-- for every memory that holds this, the rest of submit -/
def sbM {F : Type} [Lean.Grind.Field F] [DecidableEq F] (c : Int → F) (N nb : Nat) (par hgt tim : Nat → Nat) (bit : Nat → Int32) (bad : Nat → Bool) (rw : Nat → List Int32) (vl : Nat → Bool) (tip b z r h : Nat) (mk : Nat → Nat) (s : Ld) (v : Nat) (bad' vl' : Nat → Bool) (mk' : Nat → Nat) (s' : Ld) (tp' : Nat) : Prop := ∀ (fu MC MS : Nat) (cy : Nat → ClassId) (ad : Nat → Nat) (mi : Nat) (P0 : Nat → Prop) (q0 : Nat → Nat) (C0 : Nat → va_E) (P : Nat → Prop) (q : Nat → Nat) (C : Nat → va_E) (M : Mm) (κ σ m : Nat) (Φ : Int32 → Mm → Prop) (rl tk : Int32) (cb : Nat), 2 * N + 20000 ≤ fu → r < m → kBd c P q C M cy ad nb par hgt tim bit bad rw vl mk s rl tk tip cb → sbF P0 q0 C0 P q C → κ + grS s s' ≤ MC ∧ σ + 4 * grS s s' ≤ MS → (∀ M' P' q' C', kBd c P' q' C' M' cy ad nb par hgt tim bit bad' rw vl' mk' s' rl tk tp' cb → sbF P0 q0 C0 P' q' C' → Φ (nI v) M') → xw_mK_submit_111 fu MC MS cy ad mi Φ m κ σ M (q0 103) (q0 (kB b)) (q0 (kB z)) (nI (h + 1))
/-- how it ends -/
def sbO (sgB : Nat → List Int32 → List Int32 → Bool) (rw : Nat → List Int32) (par hgt : Nat → Nat) (nb N : Nat) (bad : Nat → Bool) (tip b : Nat) (U : List Cn) (v : Nat) (bad' vl' : Nat → Bool) (mk' : Nat → Nat) (s' : Ld) (tp' : Nat) : Prop := vlI sgB rw par hgt nb vl' ∧ ((v = 0 ∧ tp' = b ∧ bad' = bad ∧ ∃ i U', evW sgB rw hgt (wy par b) [] 0 i U' ∧ wJ sgB rw par hgt nb N mk' s' b U') ∨ (v ≠ 0 ∧ tp' = tip ∧ wJ sgB rw par hgt nb N mk' s' tip U ∧ ∃ x, x < nb ∧ 0 < x ∧ (∀ W, evW sgB rw hgt (wy par b) [] v x W) ∧ bad' = spL par (nb - 1) 1 (upB bad x true)))
set_option maxHeartbeats 400000 in
set_option maxHeartbeats 4000000 in
/-- the block at hand is bad -/
theorem sb_bad {F : Type} [Lean.Grind.Field F] [DecidableEq F] {c : Int → F} {sgB : Nat → List Int32 → List Int32 → Bool} {rw : Nat → List Int32} {par hgt tim : Nat → Nat} {nb N : Nat} (hp : ∀ k, 0 < k → par k < k) (hh : hgt 0 = 0 ∧ ∀ k, 0 < k → k < nb → hgt k = hgt (par k) + 1) (hA : bkA rw hgt tim nb) (hNB : ∀ x, x < nb → sumL (hBn rw) (wy par x) ≤ N) (hN : 2 * N + 10 ≤ 60000) (hO : oK rw nb) (hh60 : ∀ k, k < nb → hgt k ≤ 60) (hnb : nb ≤ 200) (bit : Nat → Int32) (bad : Nat → Bool) {vl : Nat → Bool} (hvl : vlI sgB rw par hgt nb vl) {tip i b z n h v : Nat} {U V : List Cn} (htip : tip < nb) (hU : evW sgB rw hgt (wy par tip) [] 0 i U) (hb : b < nb) (hzn : z < nb) (hzt : isA par hgt z tip) (hn0 : 0 < n) (hn : n < nb) (hnb2 : isA par hgt n b) (hza : isA par hgt z (par n)) {mk : Nat → Nat} {s : Ld} (hJ : wJ sgB rw par hgt nb N mk s (par n) V) (hv0 : v ≠ 0) {W0 : List Cn} (hv : vld sgB rw hgt n V v W0) {T w : Nat} (hT : cnT rw hgt n V T w) (hN2 : s.2.1.length + nIn (TLb rw n) + 2 * nOut (TLb rw n) ≤ N) : ∃ mk' s', sbO sgB rw par hgt nb N bad tip b U v (spL par (nb - 1) 1 (upB bad n true)) vl mk' s' tip ∧ leC (Sq rw n s T) s' ∧ ∀ (fu MC MS : Nat) (cy : Nat → ClassId) (ad : Nat → Nat) (mi : Nat) (P0 : Nat → Prop) (q0 : Nat → Nat) (C0 : Nat → va_E) (P : Nat → Prop) (q : Nat → Nat) (C : Nat → va_E) (M : Mm) (κ σ : Nat) (k111 : Nat → Nat → Mm → Nat → Nat → Nat → Int32 → Prop) (Φ : Int32 → Mm → Prop) (rl tk : Int32) (cb : Nat), 2 * N + 20000 ≤ fu → kBd c P q C M cy ad nb par hgt tim bit bad rw vl (mkC rw mk n T s) (Sq rw n s T) rl tk tip cb → sbF P0 q0 C0 P q C → κ + grS (Sq rw n s T) s' ≤ MC ∧ σ + 4 * grS (Sq rw n s T) s' ≤ MS → (∀ M' P' q' C', kBd c P' q' C' M' cy ad nb par hgt tim bit (spL par (nb - 1) 1 (upB bad n true)) rw vl mk' s' rl tk tip cb → sbF P0 q0 C0 P' q' C' → Φ (nI v) M') → xv_mK_submit_153 fu MC MS cy ad mi Φ k111 κ σ M (q0 103) (nI v) (q0 (kB b)) (q0 (kB z)) (nI h) (q0 (kB n)) := by
  have hbk := hA.2 n hn0 hn
  have v32 : v < 100 := by
    have hw := hT.2.2
    by_cases y : ∀ t, 0 < t → t < T → scA sgB rw n t (Uq rw hgt n V t)
    · have e := (vld_u hv (vld_1 hT y)).1
      rcases hw with ⟨_, _, h6⟩ | ⟨_, h5⟩
      · rw [e, h6]
        unfold stp0
        repeat' split
        all_goals first | exact (by decide : (0 : Nat) < 100) | exact (by decide : (10 : Nat) < 100) | exact (by decide : (11 : Nat) < 100) | exact (by decide : (12 : Nat) < 100)
      · rw [e, h5]
        split <;> decide
    · have e := (vld_u hv (vld_2 hT y [])).1
      omega
  obtain ⟨j1, j2, j3, D, j4, j5⟩ := Sq_I hJ.1 hn hbk hJ.2.2.2.1 hN2 T hT.1 hT.2.1
  have hlt := hp n hn0
  have hmk : mkI sgB rw par hgt (mkC rw mk n T s) (Sq rw n s T).2.1 (par n) := by
    rw [j4]
    refine mkI_ap hJ.2.1 (fun x hx => ?_)
    have := isA_le hp hh (by omega) hx
    unfold mkC
    split
    · exact upW_n (by omega)
    · rfl
  obtain ⟨mk', s', hJ2, l2, hrest⟩ := cb_all (c := c) hp hh hA hNB hN hO hh60 hnb bit (spL par (nb - 1) 1 (upB bad n true)) vl htip hU j1 hmk hza hzn hzt
  refine ⟨mk', s', ⟨hvl, Or.inr ⟨hv0, rfl, hJ2, n, hn, hn0, fun W => ?_, rfl⟩⟩, l2, ?_⟩
  · obtain ⟨L, hL⟩ := wy_isA hp hh hb hnb2
    obtain ⟨i', h5⟩ := hJ.2.2.2.2
    rw [hL, wy_s hp hn0, List.append_assoc]
    exact evW_ap _ _ _ _ _ V W i' h5 ⟨v, W0, hv, Or.inl ⟨hv0, rfl, rfl⟩⟩
  intro fu MC MS cy ad mi P0 q0 C0 P q C M κ σ k111 Φ rl tk cb hfu hK hF hκ hΦ
  obtain ⟨hM, hS', ⟨ck', hK'⟩, hly, ⟨f, h134⟩, hmc, hal⟩ := id hK
  obtain ⟨sl, hS⟩ := id hS'
  have e103 : q 103 = q0 103 := hF.2.2.1 103 (by decide) (by decide)
  have ke : ∀ x, q (kB x) = q0 (kB x) := fun x => hF.2.2.1 _ (by unfold kB; omega) (by unfold kB; omega)
  have m103 := g_at hM (hS.1.2.1 103 (by decide)) hK'
  unfold xv_mK_submit_153
  rw [← e103, ← ke n, ← ke z]
  refine m_f (fun y => hv0 ((nI_eq32 (a := v) (b := 0) (by omega) (by omega)).mp y)) (m_ck m103 ⟨0, 0, by omega, ?_⟩)
  refine w_spoil fu 0 0 cy ad mi (by omega) hM hS.1.1 hS.2.1 hO ⟨by omega, hnb⟩ hp (hS.1.2.1 103 (by decide)) (by omega) hK' hal hn (fun M1 C1 hM1 hC1 hB1 => ?_)
  have hC1' : ∀ j, j < 256 → C1 j = C j := fun j hj => hC1 j (fun x _ => by unfold kB; omega)
  have hS1 : ldM P q C1 cy ad nb par hgt tim bit (spL par (nb - 1) 1 (upB bad n true)) rw vl (mkC rw mk n T s) (Sq rw n s T) := by
    obtain ⟨g0, -, h130, hLu, hLh, hr⟩ := hS
    exact ⟨sl, g0, hB1, (hC1' 130 (by decide)).trans h130, alR_c hLu (hC1' _ (by decide)) (hC1' _ (by decide)), alR_c hLh (hC1' _ (by decide)) (hC1' _ (by decide)), hr⟩
  obtain ⟨k1, k2⟩ := kBd_b hK hM1 hC1' hS1
  refine m_ck (g_at hM1 (hS.1.2.1 103 (by decide)) ((hC1' 103 (by decide)).trans hK')) ⟨grS (Sq rw n s T) s', 4 * grS (Sq rw n s T) s', by omega, ?_⟩
  exact hrest fu _ _ cy ad mi P q C1 M1 0 0 _ rl tk cb hfu k1 (by show 0 + grS (Sq rw n s T) s' ≤ _ ∧ 0 + 4 * grS (Sq rw n s T) s' ≤ _; omega) (fun M2 P2 q2 C2 d1 d2 => hΦ M2 P2 q2 C2 d1 (sbF_t hF (sbF_t k2 d2)))
