-- the keeper's state
def kpP (sgB : Nat → List Int32 → List Int32 → Bool) (S : Ab) (R : List Int32) (vl : Nat → Bool) (mk : Nat → Nat) (s : Ld) (cb : Nat) : Prop := aIS sgB S ∧ vlI sgB S.2.2.2.2.2.2.1 S.2.1 S.2.2.1 S.1 vl ∧ wJ sgB S.2.2.2.2.2.2.1 S.2.1 S.2.2.1 S.1 4000 mk s S.2.2.2.2.2.2.2.1 S.2.2.2.2.2.2.2.2 ∧ (R.length ≤ 3000 ∧ ftB (lf R)) ∧ cb ≤ 130
def kpS {F : Type} [Lean.Grind.Field F] [DecidableEq F] (c : Int → F) (P : Nat → Prop) (q : Nat → Nat) (C : Nat → va_E) (M : Mm) (cy : Nat → ClassId) (ad : Nat → Nat) (S : Ab) (R : List Int32) (vl : Nat → Bool) (mk : Nat → Nat) (s : Ld) (cb : Nat) : Prop := kBd c P q C M cy ad S.1 S.2.1 S.2.2.1 S.2.2.2.1 S.2.2.2.2.1 S.2.2.2.2.2.1 S.2.2.2.2.2.2.1 vl mk s (nI R.length) (nI (sBr S.2.2.2.2.2.2.1 S.1)) S.2.2.2.2.2.2.2.1 cb ∧ (∃ g, C 104 = .inl (cy 0, 3000, .inl g) ∧ (∀ j, j < R.length → g j = lf R j) ∧ ftB g) ∧ (∃ gi, C 105 = .inl (cy 0, 32, .inl gi) ∧ ftB gi) ∧ (¬ P 224 ∧ ¬ P 225) ∧ ∀ j, kB S.1 ≤ j → ¬ P j
/-- the rest of the memory -/
def kpF (P : Nat → Prop) (q : Nat → Nat) (C : Nat → va_E) (P' : Nat → Prop) (q' : Nat → Nat) (C' : Nat → va_E) : Prop := (∀ j, j < 220 → (P' j ↔ P j)) ∧ (∀ j, j < 220 → P j → q' j = q j) ∧ ∀ j, 135 ≤ j → j < 220 → P j → C' j = C j
set_option maxHeartbeats 400000 in
theorem kpF_r {P : Nat → Prop} {q : Nat → Nat} {C C' : Nat → va_E} (h : ∀ j, 135 ≤ j → j < 220 → C' j = C j) : kpF P q C P q C' := ⟨fun _ _ => Iff.rfl, fun _ _ _ => rfl, fun j a b _ => h j a b⟩
set_option maxHeartbeats 400000 in
theorem kBd_l {F : Type} [Lean.Grind.Field F] [DecidableEq F] {c : Int → F} {P P1 : Nat → Prop} {q q1 : Nat → Nat} {C C1 : Nat → va_E} {M M1 : Mm} {cy : Nat → ClassId} {ad : Nat → Nat} {nb : Nat} {par hgt tim : Nat → Nat} {bit : Nat → Int32} {bad : Nat → Bool} {rw : Nat → List Int32} {vl : Nat → Bool} {mk : Nat → Nat} {s s1 : Ld} {rl tk : Int32} {tip cb : Nat} (hK : kBd c P q C M cy ad nb par hgt tim bit bad rw vl mk s rl tk tip cb) (hM1 : RG P1 q1 C1 M1) (hS1 : ldM P1 q1 C1 cy ad nb par hgt tim bit bad rw vl mk s1) (hF1 : leF P q C P1 q1 C1) : kBd c P1 q1 C1 M1 cy ad nb par hgt tim bit bad rw vl mk s1 rl tk tip cb ∧ sbF P q C P1 q1 C1 := by
  obtain ⟨hM, hS', ⟨ck', hK'⟩, hly, ⟨f, h134⟩, hmc, hal⟩ := hK
  have hF := sbF_c (coF_l hF1)
  have kt : 256 ≤ kB tip := by unfold kB; omega
  refine ⟨⟨hM1, hS1, ⟨ck', ?_⟩, ?_, ⟨f, (hF1.2.2.2 134 (by decide) (by decide) (by decide) (by decide) (by decide)).trans h134⟩, mcX_q hmc (fun k a _ _ _ => hF1.2.2.2 k (by omega) (by omega) (by omega) (by omega) (by omega)) (fun k hk => hF1.2.2.1 k (by omega) (by omega)), sbF_al hF hal⟩, hF⟩
  · exact (hF1.2.2.2 103 (by decide) (by decide) (by decide) (by decide) (by decide)).trans (hK'.trans (kpO_q (fun j hj => hF1.2.2.1 j (by omega) (by omega)) (hF1.2.2.1 _ (by omega) (by omega)) _ _ _).symm)
  · exact lyX_q hly (fun k a b => ⟨hF1.2.2.2 k (by omega) (by omega) (by omega) (by omega) (by omega), hF1.2.2.1 k (by omega) (by omega)⟩)
set_option maxHeartbeats 400000 in
theorem sB_u {rw : Nat → List Int32} {nb : Nat} (r : List Int32) : sBr (upW rw nb r) (nb + 1) = sBr rw nb + r.length := by
  show sumB (fun k => (upW rw nb r k).length) nb + (upW rw nb r nb).length = _
  rw [upW_s, sumB_cg (g := fun k => (rw k).length) nb (fun b hb => by rw [upW_n (by omega)])]
  rfl
set_option maxHeartbeats 8000000 in
theorem w_sub0 {F : Type} [Lean.Grind.Field F] [DecidableEq F] {c : Int → F} (hc : cH pP c) {sgB : Nat → List Int32 → List Int32 → Bool} (hsg : ∀ e K G, sgB e K G = true ↔ sgO c e K G) {nb : Nat} {par hgt tim : Nat → Nat} {bit : Nat → Int32} {bad : Nat → Bool} {rw : Nat → List Int32} {tip : Nat} {U : List Cn} {R : List Int32} {vl : Nat → Bool} {mk : Nat → Nat} {s : Ld} {cb : Nat} (hP : kpP sgB (nb, par, hgt, tim, bit, bad, rw, tip, U) R vl mk s cb) (hn : nb ≤ 57) (hs : sBr rw nb + R.length ≤ 17000) : ∃ w S' vl' mk' s' cb', sbR sgB (nb, par, hgt, tim, bit, bad, rw, tip, U) R w S' ∧ kpP sgB S' [] vl' mk' s' cb' ∧ w < 100 ∧ leC s s' ∧ cb ≤ cb' ∧ ∀ (fu MC MS : Nat) (cy : Nat → ClassId) (ad : Nat → Nat) (mi : Nat) (P : Nat → Prop) (q : Nat → Nat) (C : Nat → va_E) (M : Mm) (κ σ : Nat) (Φ : Int32 → Mm → Prop), 40000 ≤ fu → kpS c P q C M cy ad (nb, par, hgt, tim, bit, bad, rw, tip, U) R vl mk s cb → κ + 7 + R.length + (cb' - cb) + grS s s' ≤ MC ∧ σ + 10 * R.length + 200 + 4 * ((cb' - cb) + grS s s') ≤ MS → (∀ M' P' q' C', kpS c P' q' C' M' cy ad S' [] vl' mk' s' cb' → kpF P q C P' q' C' → Φ (nI w) M') → xw_mK_submit fu MC MS cy ad mi Φ κ σ M (q 103) := by
  obtain ⟨hI, hvl, hJ, ⟨hR1, hR2⟩, hcb⟩ := hP
  replace hI : aI sgB nb par hgt tim bit bad rw tip U := hI
  replace hvl : vlI sgB rw par hgt nb vl := hvl
  replace hJ : wJ sgB rw par hgt nb 4000 mk s tip U := hJ
  have hIg := fun {k : Nat} (hk : k < nb) => aI_g hI hk
  have hIh := aI_h hI
  have hIS : aIS sgB (nb, par, hgt, tim, bit, bad, rw, tip, U) := hI
  obtain ⟨⟨i1, i2⟩, hA, hp, hh, hti, hdi, hsB, ⟨htip, ix, hU⟩, hb0⟩ := id hI
  have hh57 : ∀ k, k < nb → hgt k ≤ 57 := fun k hk => by
    have := hIh k hk
    omega
  have nil0 : ([] : List Int32).length ≤ 3000 ∧ ftB (lf []) := ⟨by decide, fun j => show fits .byte (.int 0) = true by decide⟩
  obtain ⟨co, p, hrf⟩ := rfR_x rw nb par hgt tim bit (fun k => bad k = true) R
  have hco := rfR_9 hrf
  -- what stands before refusal
  have PRE : ∀ (K : Nat) (fu MC MS : Nat) (cy : Nat → ClassId) (ad : Nat → Nat) (mi : Nat) (P : Nat → Prop) (q : Nat → Nat) (C : Nat → va_E) (M : Mm) (κ σ : Nat) (Φ : Int32 → Mm → Prop), 40000 ≤ fu → kpS c P q C M cy ad (nb, par, hgt, tim, bit, bad, rw, tip, U) R vl mk s cb → κ + 2 ≤ MC ∧ σ + 4 * R.length + 43 ≤ MS → (∀ ck' M1 C1, RG P q C1 M1 → rfQ P q (va_up C 103 (kpO q (nI 0) tip (nI (sBr rw nb)) ck')) cy R co M1 C1 → (if nI co = 0 then (mck M1 (q 103) 0 <| ∃ mc16 ms17 : Nat, (κ + 0 + 2 + mc16 ≤ MC ∧ σ + 0 + (4 * R.length + 43) + ms17 ≤ MS) ∧ xw_mK_take fu mc16 ms17 cy ad mi (fun v19 M18 => oss v19 fun q20 => mgj M18 q20 1 7 fun v21 => mgr M18 (q 103) 0 10 fun r22 => oss r22 fun q23 => mgj M18 q23 1 7 fun v24 => if 0 < (lg_cmp v21 v24) then (mgr M18 (q 103) 0 10 fun r25 => oss r25 fun q26 => mck M18 q20 1 <| ∃ mc27 ms28 : Nat, (κ + 0 + 2 + mc16 + mc27 ≤ MC ∧ σ + 0 + (4 * R.length + 43) + ms17 + ms28 ≤ MS) ∧ xw_mBl_meets fu mc27 ms28 cy ad mi (fun v30 M29 => osp v30 (mgr M29 (q 103) 0 7 fun r32 => oss r32 fun q33 => False) fun q31 => mgr M29 (q 103) 0 7 fun r34 => oss r34 fun q35 => mgi M29 q31 1 11 fun v36 => mck M29 q35 5 <| ∃ mc37 ms38 : Nat, (κ + 0 + 2 + mc16 + mc27 + mc37 ≤ MC ∧ σ + 0 + (4 * R.length + 43) + ms17 + ms28 + ms38 ≤ MS) ∧ xw_mLe_rollBack fu mc37 ms38 cy ad mi (fun M39 => mgi M39 q31 1 4 fun v40 => bnd (v40 + (1 : Int32)) fun v41 => xw_mK_submit_111 fu MC MS cy ad mi Φ fu (κ + 0 + 2 + mc16 + mc27 + mc37) (σ + 0 + (4 * R.length + 43) + ms17 + ms28 + ms38) M39 (q 103) q20 q31 v41) 0 0 M29 q35 v36) 0 0 M18 q20 q26) else (Φ (1 : Int32) M18)) 0 0 M1 (q 103) (nI R.length)) else (Φ (nI co) M1))) → xw_mK_submit fu MC MS cy ad mi Φ κ σ M (q 103) := by
    intro _ fu MC MS cy ad mi P q C M κ σ Φ hfu hK hκ hrest
    obtain ⟨⟨hM, hS', ⟨ck', hK'⟩, hly, ⟨f, h134⟩, hmc, hal⟩, ⟨g, h104, hg, hgf⟩, ⟨gi, h105, hgi⟩, ⟨n224, n225⟩, hfr⟩ := hK
    obtain ⟨sl, hS⟩ := id hS'
    obtain ⟨⟨hq, hP0, h223, had⟩, hB, -⟩ := id hS
    have m103 := g_at hM (hP0 103 (by decide)) hK'
    obtain ⟨-, -, ee, mm, h133⟩ := al_s hal
    unfold xw_mK_submit
    refine m_gr m103 rfl (m_ck (g_at hM (hP0 133 (by decide)) h133) ⟨0, 0, by omega, w_Size fu 0 0 cy ad mi hM hal ?_⟩)
    rw [blL_l]
    refine m_f (fun z => absurd ((nI_ltI (a := 200) (b := nb) (by omega) (by omega)).mp z) (by omega)) (m_gi m103 rfl (m_gi m103 rfl (m_bn (e' := nI (sBr rw nb + R.length)) (nI_add _ _) (m_t ((nI_leI (a := sBr rw nb + R.length) (b := 100000) (by omega) (by omega)).mpr (by omega)) (m_gi m103 rfl (g_pt hM hq (hP0 103 (by decide)) hK' (show 1 < 13 by decide) (fun M0 hM0 => ?_)))))))
    have n1 : ∀ {j}, j ≠ 103 → va_up C 103 (kpO q (nI 0) tip (nI (sBr rw nb)) ck') j = C j := fun h => up_n h
    have hM0' : RG P q (va_up C 103 (kpO q (nI 0) tip (nI (sBr rw nb)) ck')) M0 := hM0
    obtain ⟨h_, oh, op, i1_, i2_, fr, ly, tx, inn, cox, mit, D, m_, o_, tk_, se, Hm, -⟩ := id hmc
    have hsh : shX (va_up C 103 (kpO q (nI 0) tip (nI (sBr rw nb)) ck')) q cy := shX_q Hm.2.1 (fun k a b => ⟨n1 (by omega), rfl⟩)
    refine m_ck (g_at hM0' (hP0 103 (by decide)) up_e) ⟨2, 4 * R.length + 43, by omega, ?_⟩
    refine w_refusal fu 2 (4 * R.length + 43) cy ad mi (by omega) hM0' hq hP0 n224 n225 (bkR_c hB (fun k hk => n1 (by omega))) (by omega) hp hh hh57 (fun k hk => hIg hk) up_e (alR_c hal (n1 (by decide)) (n1 (by decide))) ((n1 (by decide)).trans h104) ((n1 (by decide)).trans h105) hgi hsh (lyX_q hly (fun k a b => ⟨n1 (by omega), rfl⟩)) hR1 hg hR2 (by omega) (fun c' p' M1 C1 hr hQ => ?_)
    obtain ⟨ec, -⟩ := rfR_u hdi hr hrf
    subst ec
    exact hrest ck' M1 C1 hQ.1 hQ
  by_cases hc0 : co = 0
  rotate_left
  · -- refused
    refine ⟨co, (nb, par, hgt, tim, bit, bad, rw, tip, U), vl, mk, s, cb, ⟨co, p, hrf, Or.inl ⟨hc0, rfl, rfl⟩⟩, ⟨hI, hvl, hJ, nil0, hcb⟩, hco, leC_r s, Nat.le_refl _, ?_⟩
    intro fu MC MS cy ad mi P q C M κ σ Φ hfu hK hκ hΦ
    refine PRE 0 fu MC MS cy ad mi P q C M κ σ Φ hfu hK (by omega) (fun ck' M1 C1 hM1 hQ => ?_)
    obtain ⟨⟨hM, hS', ⟨ck0, hK'⟩, hly, ⟨f, h134⟩, hmc, hal⟩, ⟨g, h104, hg, hgf⟩, ⟨gi, h105, hgi⟩, hn2, hfr⟩ := hK
    obtain ⟨-, q2, q3, q4, ⟨gd, q5, q6, -⟩, -⟩ := hQ
    refine m_f (fun z => hc0 ((nI_eq32 (a := co) (b := 0) (by omega) (by omega)).mp z)) (hΦ M1 P q C1 ⟨⟨hM1, ldM_c hS' (fun k hk => ?_), ⟨ck', ?_⟩, q3, ⟨f, ?_⟩, mcX_sh hmc q2 (fun k a b1 b2 b3 b4 => ?_) (fun _ _ => rfl), alR_c hal ?_ ?_⟩, ⟨g, ?_, fun j hj => absurd hj (Nat.not_lt_zero _), hgf⟩, ⟨gd, q5, q6⟩, hn2, hfr⟩ (kpF_r fun j a b => ?_))
    · by_cases e : k = 225
      · omega
      · exact (q4 k (by omega) (by omega) (by omega) e).trans (up_n (by omega))
    · exact (q4 103 (by decide) (by decide) (by decide) (by decide)).trans up_e
    · exact (q4 134 (by decide) (by decide) (by decide) (by decide)).trans ((up_n (by decide)).trans h134)
    · exact (q4 k b3 b4 (by omega) (by omega)).trans (up_n b1)
    · exact (q4 133 (by decide) (by decide) (by decide) (by decide)).trans (up_n (by decide))
    · exact (q4 222 (by decide) (by decide) (by decide) (by decide)).trans (up_n (by decide))
    · exact (q4 104 (by decide) (by decide) (by decide) (by decide)).trans ((up_n (by decide)).trans h104)
    · exact (q4 j (by omega) (by omega) (by omega) (by omega)).trans (up_n (by omega))
  -- taken
  subst hc0
  obtain ⟨⟨TL, hTL⟩, -, ⟨hpn, hpe⟩, -, hwn, hsn⟩ := rfR_0 hrf
  have eTL : rTL R = TL := by
    unfold rTL
    rw [hTL]
    rfl
  obtain ⟨h80, a0, a1, a2, hTx⟩ := pBl_B hTL
  have hnn := txB_n TL a0 hTx
  rw [← eTL] at hnn
  have hA1 := aI_ext hI hn hrf hR2 hR1 hs
  have hg := agU (nb := nb) (rw := rw) (hgt := hgt) R (hgt p + 1)
  have hpp : ∀ k, 0 < k → k < nb → par k < k ∧ upW par nb p k = par k := fun k a b => ⟨hp k a, upW_n (by omega)⟩
  have hJ1 : wJ sgB (upW rw nb R) (upW par nb p) (upW hgt nb (hgt p + 1)) (nb + 1) 4000 (upW mk nb 0) s tip U := wJ_x hg hpp hh hp (fun k hk => upW_n (by omega)) (Nat.le_succ _) htip hJ
  have hvl1 : vlI sgB (upW rw nb R) (upW par nb p) (upW hgt nb (hgt p + 1)) (nb + 1) (upW vl nb false) := fun x hx hy => by
    by_cases e : x = nb
    · rw [e, upW_s] at hy
      exact absurd hy (by decide)
    · rw [upW_n e] at hy
      obtain ⟨j, V, hev⟩ := hvl x (by omega) hy
      exact ⟨j, V, ev_x hg hpp hh hp (by omega) hev⟩
  have hIh1 := aI_h hA1
  have hAw := aI_w hA1
  obtain ⟨⟨j1, j2⟩, hAA, hp1, hh1, -, -, hsB1, ⟨htip1, ix1, hU1⟩, -⟩ := id hA1
  have hcb1 := ncp_x (cap := cb) (n := nb) (N := 60) (by omega) (by omega)
  have hh60 : ∀ k, k < nb + 1 → upW hgt nb (hgt p + 1) k ≤ 60 := fun k hk => by
    have := hIh1 k hk
    omega
  -- behind take
  have TAKE : ∀ (fu MC MS : Nat) (cy : Nat → ClassId) (ad : Nat → Nat) (mi : Nat) (P : Nat → Prop) (q : Nat → Nat) (C : Nat → va_E) (M : Mm) (ck' : Int32) (M1 : Mm) (C1 : Nat → va_E) (Ψ : Option Nat → Mm → Prop), 40000 ≤ fu → kpS c P q C M cy ad (nb, par, hgt, tim, bit, bad, rw, tip, U) R vl mk s cb → RG P q C1 M1 → rfQ P q (va_up C 103 (kpO q (nI 0) tip (nI (sBr rw nb)) ck')) cy R 0 M1 C1 → 5 + nOut (rTL R) + dcp cb nb ≤ MC ∧ R.length + 76 + 32 * (rTL R).length + 11 * nOut (rTL R) + 4 * dcp cb nb ≤ MS → (∀ M2 P2 q2 C2, kBd c P2 q2 C2 M2 cy ad (nb + 1) (upW par nb p) (upW hgt nb (hgt p + 1)) (upW tim nb (rTm R)) (upW bit nb (rBi R)) (upW bad nb false) (upW rw nb R) (upW vl nb false) (upW mk nb 0) s (nI 0) (nI (sBr (upW rw nb R) (nb + 1))) tip (ncp cb nb) → (∃ g, C2 104 = .inl (cy 0, 3000, .inl g) ∧ ftB g) → (∃ gi, C2 105 = .inl (cy 0, 32, .inl gi) ∧ ftB gi) → (∀ j, j < 256 → (P2 j ↔ P j ∨ j = 222)) → (∀ j, kB (nb + 1) ≤ j → ¬ P2 j) → kpF P q C P2 q2 C2 → q2 103 = q 103 → Ψ (some (q2 (kB nb))) M2) → xw_mK_take fu MC MS cy ad mi Ψ 0 0 M1 (q 103) (nI R.length) := by
    intro fu MC MS cy ad mi P q C M ck' M1 C1 Ψ hfu hK hM1 hQ hκ hΨ
    obtain ⟨⟨hM, hS', ⟨ck0, hK'⟩, hly, ⟨f, h134⟩, hmc, hal⟩, ⟨g, h104, hgR, hgf⟩, ⟨gi, h105, hgi⟩, hn2, hfr⟩ := hK
    obtain ⟨sl, hS⟩ := id hS'
    obtain ⟨⟨hq, hP0, h223, had⟩, hB, -⟩ := id hS
    obtain ⟨-, q2, q3, q4, ⟨gd, q5, q6, q7⟩, q8⟩ := hQ
    obtain ⟨u3, u4, u5, u6, u7, u8, u9, u10, u11, hl1⟩ := q8 rfl
    have e1 : ∀ k, k ≠ 103 → k ≠ 105 → (k < 106 ∨ 109 < k) → (k < 120 ∨ 129 < k) → k ≠ 225 → C1 k = C k := fun k a b d e f => (q4 k b d e f).trans (up_n a)
    have hK1 : C1 103 = kpO q (nI 0) tip (nI (sBr rw nb)) ck' := (q4 103 (by decide) (by decide) (by decide) (by decide)).trans up_e
    have hfr' : ∀ j, kB nb ≤ j → ¬ P j := hfr
    refine w_take fu MC MS cy ad mi (by omega) hM1 hq hP0 h223 had hfr' (bkR_c hB (fun k hk => e1 k (by omega) (by omega) (by omega) (by omega) (by omega))) ⟨i1, by omega⟩ hp hh57 (fun k hk => hIg hk) hdi htip hK1 (alR_c hal (e1 133 (by decide) (by decide) (by decide) (by decide) (by decide)) (e1 222 (by decide) (by decide) (by decide) (by decide) (by decide))) (by omega) ((e1 104 (by decide) (by decide) (by decide) (by decide) (by decide)).trans h104) q5 q6 q2 hR1 hgR hR2 hrf (q7 rfl) hl1 (by omega) (fun M2 P2 q2' C2 b1 b2 b3 b4 b5 b6 b7 b8 b9 b10 => ?_)
    have qe : ∀ k, k < 138 ∧ k ≠ 29 ∧ k ≠ 137 ∧ k ≠ 135 → q2' k = q k := fun k hk => b5 k (Or.inl (hP0 k hk)) (by omega)
    have c2e : ∀ k, k < 256 → P k → k ≠ 103 → k ≠ 105 → (k < 106 ∨ 109 < k) → (k < 120 ∨ 129 < k) → k ≠ 133 → k ≠ 222 → k ≠ 225 → C2 k = C k := fun k a pk d e f g h i j => (b6 k a pk d f h i).trans (e1 k d e f g j)
    refine hΨ M2 P2 q2' C2 ⟨b1, ldM_x hg hpp hh hS b2 b3 b5 (fun j a b pj d e => c2e j b pj (by omega) (by omega) (by omega) (by omega) d e (fun z => hn2.2 (z ▸ pj))) b10, ⟨ck', ?_⟩, ?_, ⟨f, ?_⟩, mcX_sh hmc b8 (fun k a d1 d2 d3 d4 => c2e k (by omega) (hP0 k (by omega)) d1 d3 d4 (by omega) (by omega) (by omega) (by omega)) qe, b9⟩ ⟨g, ?_, hgf⟩ ⟨gd, ?_, q6⟩ b3 b4 ⟨fun j hj => ?_, fun j a pj => b5 j (Or.inl pj) (by omega), fun j a b pj => ?_⟩ (qe 103 (by decide))
    · rw [b7, sB_u, ← nI_add]
    · exact lyX_q (lyX_r hl1) (fun k a d => ⟨b6 k (by omega) (hP0 k (by omega)) (by omega) (by omega) (by omega) (by omega), qe k (by omega)⟩)
    · exact (c2e 134 (by decide) (hP0 134 (by decide)) (by decide) (by decide) (by decide) (by decide) (by decide) (by decide) (by decide)).trans h134
    · exact (c2e 104 (by decide) (hP0 104 (by decide)) (by decide) (by decide) (by decide) (by decide) (by decide) (by decide) (by decide)).trans h104
    · exact (b6 105 (by decide) (hP0 105 (by decide)) (by decide) (by decide) (by decide) (by decide)).trans q5
    · rw [b3 j (by omega)]
      exact ⟨fun z => z.resolve_right (by omega), Or.inl⟩
    · exact c2e j (by omega) pj (by omega) (by omega) (by omega) (by omega) (by omega) (by omega) (by omega)
  have hdcp : dcp cb nb = ncp cb nb - cb := rfl
  obtain ⟨wn, hwn'⟩ : ∃ wn, wn = wrk (upW par nb p) (upW bit nb (rBi R)) nb := ⟨_, rfl⟩
  obtain ⟨wt, hwt⟩ : ∃ wt, wt = wrk (upW par nb p) (upW bit nb (rBi R)) tip := ⟨_, rfl⟩
  have bn := hAw nb (by omega)
  have bt := hAw tip (by omega)
  rw [← hwn'] at bn
  rw [← hwt] at bt
  have hcmp : 0 < lg_cmp (lN wn) (lN wt) ↔ wt < wn := by
    have e1 : (nb + 1) * 2 ^ 23 ≤ 58 * 2 ^ 23 := Nat.mul_le_mul_right _ (by omega)
    have e2 : (tip + 1) * 2 ^ 23 ≤ 58 * 2 ^ 23 := Nat.mul_le_mul_right _ (by omega)
    rw [lg_gt' (lN_I (show wn < 2 ^ 63 by omega)) (lN_I (show wt < 2 ^ 63 by omega))]
    omega
  by_cases hwk : wn ≤ wt
  · -- not more work
    refine ⟨1, exA (nb, par, hgt, tim, bit, bad, rw, tip, U) p R, upW vl nb false, upW mk nb 0, s, ncp cb nb, ⟨0, p, hrf, Or.inr ⟨rfl, Or.inl ⟨by rw [hwn', hwt] at hwk; exact hwk, rfl, rfl⟩⟩⟩, ⟨hA1, hvl1, hJ1, nil0, ?_⟩, by decide, leC_r s, ?_, ?_⟩
    · unfold ncp
      split
      · omega
      · split
        · omega
        · split <;> omega
    · unfold ncp
      split
      · omega
      · split
        · omega
        · split <;> omega
    intro fu MC MS cy ad mi P q C M κ σ Φ hfu hK hκ hΦ
    rw [grS_r] at hκ
    refine PRE 0 fu MC MS cy ad mi P q C M κ σ Φ hfu hK (by omega) (fun ck' M1 C1 hM1 hQ => ?_)
    have hm103 : mat M1 (q 103) (kpO q (nI 0) tip (nI (sBr rw nb)) ck') := by
      obtain ⟨sl, hS⟩ := hK.1.2.1
      exact g_at hM1 (hS.1.2.1 103 (by decide)) ((hQ.2.2.2.1 103 (by decide) (by decide) (by decide) (by decide)).trans up_e)
    refine m_t rfl (m_ck hm103 ⟨5 + nOut (rTL R) + dcp cb nb, R.length + 76 + 32 * (rTL R).length + 11 * nOut (rTL R) + 4 * dcp cb nb, by omega, ?_⟩)
    refine TAKE fu _ _ cy ad mi P q C M ck' M1 C1 _ hfu hK hM1 hQ ⟨Nat.le_refl _, Nat.le_refl _⟩ (fun M2 P2 q2 C2 k1 ⟨g, k2, k2'⟩ k3 k4 k5 k6 k7 => ⟨_, rfl, ?_⟩)
    obtain ⟨hM2, ⟨sl2, hS2⟩, ⟨ck2, hK2⟩, -⟩ := id k1
    obtain ⟨⟨pn, -⟩, cn, -⟩ := hS2.2.1.1 nb (by omega)
    obtain ⟨⟨pt, -⟩, ct, -⟩ := hS2.2.1.1 tip (by omega)
    rw [← k7]
    refine m_gj (g_at hM2 pn cn) rfl (m_gr (g_at hM2 (hS2.1.2.1 103 (by decide)) hK2) rfl (m_gj (g_at hM2 pt ct) rfl ?_))
    rw [← hwn', ← hwt]
    have fin : Φ (nI 1) M2 := hΦ M2 P2 q2 C2 ⟨k1, ⟨g, k2, fun j hj => absurd hj (Nat.not_lt_zero _), k2'⟩, k3, ⟨fun z => ?_, fun z => ?_⟩, k5⟩ k6
    · exact m_f (fun z => by have := hcmp.mp z; omega) fin
    · rcases (k4 224 (by decide)).mp z with z | z
      · exact hK.2.2.2.1.1 z
      · exact absurd z (by decide)
    · rcases (k4 225 (by decide)).mp z with z | z
      · exact hK.2.2.2.1.2 z
      · exact absurd z (by decide)
  · -- more work
    have hNB := hNB_a hAA hp1 hsB1
    have hO1 := oK_a hAA
    obtain ⟨z, hz⟩ := isM_x hp1 hh1 (b := nb) (c := tip) (Nat.lt_succ_self _) (by omega)
    have hcI : chI (nb + 1) (upW par nb p) (upW hgt nb (hgt p + 1)) := ⟨by omega, hh1.1, fun k hk hk' => ⟨hp1 k hk, hh1.2 k hk hk'⟩⟩
    have hzA : z < nb + 1 ∧ isA (upW par nb p) (upW hgt nb (hgt p + 1)) z nb ∧ isA (upW par nb p) (upW hgt nb (hgt p + 1)) z tip := by
      have hz' := hz
      unfold isM at hz'
      obtain ⟨n, e1, e2, e3⟩ := hz'
      have hm : min (upW hgt nb (hgt p + 1) nb) (upW hgt nb (hgt p + 1) tip) ≤ upW hgt nb (hgt p + 1) nb ∧ min (upW hgt nb (hgt p + 1) nb) (upW hgt nb (hgt p + 1) tip) ≤ upW hgt nb (hgt p + 1) tip := ⟨Nat.min_le_left _ _, Nat.min_le_right _ _⟩
      generalize min (upW hgt nb (hgt p + 1) nb) (upW hgt nb (hgt p + 1) tip) = h at *
      have u1 := up_b hcI (upW hgt nb (hgt p + 1) nb - h) nb (Nat.lt_succ_self _) (by omega)
      have u2 := up_b hcI (upW hgt nb (hgt p + 1) tip - h) tip (by omega) (by omega)
      have hnh : n ≤ h := by
        rcases Nat.lt_or_ge h n with y | y
        · exfalso
          have v1 := up_b hcI h _ u1.1 (by omega)
          have v2 := up_b hcI h _ u2.1 (by omega)
          refine e3 h y ?_
          rw [hgt_0 hh1 v1.1 (by omega), hgt_0 hh1 v2.1 (by omega)]
        · exact y
      have v1 := up_b hcI n _ u1.1 (by omega)
      rw [e1] at v1
      have v2 := up_b hcI n _ u2.1 (by omega)
      rw [e2] at v2
      exact ⟨v1.1, ⟨_, by rw [up_a]; exact e1, by omega⟩, ⟨_, by rw [up_a]; exact e2, by omega⟩⟩
    obtain ⟨hz1, hzb, hzt⟩ := hzA
    obtain ⟨hmz, Vz, hJz, hcapz⟩ := wJ_rb hp1 hh1 hAA hNB hJ1.1 hJ1.2.1 hzt
    obtain ⟨kz, kz1, kz2⟩ := id hzb
    obtain ⟨v, bad', vl', mk', s', tp', hOut, hle, hmem⟩ := sb_lp hc hp1 hh1 hAA hNB (by decide) hO1 hh60 (by omega) hsg (upW bit nb (rBi R)) (upW bad nb false) (tip := tip) (b := nb) (z := z) (by omega) hU1 (Nat.lt_succ_self _) hz1 hzt kz (upW hgt nb (hgt p + 1) z) (upW mk nb 0) (rbN (s.2.1.length - upW mk nb 0 z) s) Vz (upW vl nb false) (by omega) hvl1 (by rw [show upW hgt nb (hgt p + 1) nb - upW hgt nb (hgt p + 1) z = kz from by omega, kz1]; exact hJz) (by rw [show upW hgt nb (hgt p + 1) nb - upW hgt nb (hgt p + 1) z = kz from by omega, kz1]; exact ⟨0, rfl, rfl⟩)
    have hlz : leC s (rbN (s.2.1.length - upW mk nb 0 z) s) := by
      unfold leC
      rw [hcapz]
      exact ⟨Nat.le_refl _, Nat.le_refl _⟩
    have g1 : grS s (rbN (s.2.1.length - upW mk nb 0 z) s) = 0 := by
      unfold grS
      rw [hcapz]
      omega
    obtain ⟨l3, hgr⟩ := leC_t hlz hle
    rw [g1, Nat.zero_add] at hgr
    -- the state then
    have OUT : ∃ S', sb2 sgB (exA (nb, par, hgt, tim, bit, bad, rw, tip, U) p R) nb v S' ∧ S'.1 = nb + 1 ∧ S'.2.1 = upW par nb p ∧ S'.2.2.1 = upW hgt nb (hgt p + 1) ∧ S'.2.2.2.1 = upW tim nb (rTm R) ∧ S'.2.2.2.2.1 = upW bit nb (rBi R) ∧ S'.2.2.2.2.2.1 = bad' ∧ S'.2.2.2.2.2.2.1 = upW rw nb R ∧ S'.2.2.2.2.2.2.2.1 = tp' ∧ vlI sgB (upW rw nb R) (upW par nb p) (upW hgt nb (hgt p + 1)) (nb + 1) vl' ∧ wJ sgB (upW rw nb R) (upW par nb p) (upW hgt nb (hgt p + 1)) (nb + 1) 4000 mk' s' tp' S'.2.2.2.2.2.2.2.2 ∧ v < 100 := by
      have hgt' : wt < wn := by omega
      rw [hwn', hwt] at hgt'
      obtain ⟨o1, o2⟩ := hOut
      rcases o2 with ⟨e1, e2, e3, i', U', e4, e5⟩ | ⟨e1, e2, e3, x, e4, e5, e6, e7⟩
      · subst e1
        subst tp'
        subst bad'
        exact ⟨(nb + 1, upW par nb p, upW hgt nb (hgt p + 1), upW tim nb (rTm R), upW bit nb (rBi R), upW bad nb false, upW rw nb R, nb, U'), Or.inr ⟨hgt', 0, i', U', e4, rfl, Or.inl ⟨rfl, rfl⟩⟩, rfl, rfl, rfl, rfl, rfl, rfl, rfl, rfl, o1, e5, by decide⟩
      · subst tp'
        subst bad'
        refine ⟨(nb + 1, upW par nb p, upW hgt nb (hgt p + 1), upW tim nb (rTm R), upW bit nb (rBi R), spL (upW par nb p) (nb + 1 - 1) 1 (upB (upW bad nb false) x true), upW rw nb R, tip, U), Or.inr ⟨hgt', v, x, [], e6 [], rfl, Or.inr ⟨e1, rfl⟩⟩, rfl, rfl, rfl, rfl, rfl, rfl, rfl, rfl, o1, e3, ?_⟩
        have := evW_14 _ _ _ _ _ (e6 [])
        omega
    obtain ⟨S', t0, t1, t2, t3, t4, t5, t6, t7, t8, t9, t10, t11⟩ := OUT
    have hsb : sbR sgB (nb, par, hgt, tim, bit, bad, rw, tip, U) R v S' := ⟨0, p, hrf, Or.inr ⟨rfl, t0⟩⟩
    have hcb2 : ncp cb nb ≤ 130 ∧ cb ≤ ncp cb nb := by
      unfold ncp
      constructor
      · split
        · omega
        · split
          · omega
          · split <;> omega
      · split
        · omega
        · split
          · omega
          · split <;> omega
    obtain ⟨nb', par', hgt', tim', bit', bad2, rw', tip', U2⟩ := S'
    replace t1 : nb' = nb + 1 := t1
    replace t2 : par' = upW par nb p := t2
    replace t3 : hgt' = upW hgt nb (hgt p + 1) := t3
    replace t4 : tim' = upW tim nb (rTm R) := t4
    replace t5 : bit' = upW bit nb (rBi R) := t5
    replace t6 : bad2 = bad' := t6
    replace t7 : rw' = upW rw nb R := t7
    replace t8 : tip' = tp' := t8
    subst t1 t2 t3 t4 t5 t6 t7 t8
    refine ⟨v, _, vl', mk', s', ncp cb nb, hsb, ⟨sbR_I hIS hn hR2 hR1 hs hsb, t9, t10, nil0, hcb2.1⟩, t11, l3, hcb2.2, ?_⟩
    intro fu MC MS cy ad mi P q C M κ σ Φ hfu hK hκ hΦ
    rw [hgr] at hκ
    refine PRE 0 fu MC MS cy ad mi P q C M κ σ Φ hfu hK (by omega) (fun ck' M1 C1 hM1 hQ => ?_)
    have hm103 : mat M1 (q 103) (kpO q (nI 0) tip (nI (sBr rw nb)) ck') := by
      obtain ⟨sl, hS⟩ := hK.1.2.1
      exact g_at hM1 (hS.1.2.1 103 (by decide)) ((hQ.2.2.2.1 103 (by decide) (by decide) (by decide) (by decide)).trans up_e)
    refine m_t rfl (m_ck hm103 ⟨5 + nOut (rTL R) + dcp cb nb, R.length + 76 + 32 * (rTL R).length + 11 * nOut (rTL R) + 4 * dcp cb nb, by omega, ?_⟩)
    refine TAKE fu _ _ cy ad mi P q C M ck' M1 C1 _ hfu hK hM1 hQ ⟨Nat.le_refl _, Nat.le_refl _⟩ (fun M2 P2 q2 C2 k1 ⟨g, k2, k2'⟩ k3 k4 k5 k6 k7 => ⟨_, rfl, ?_⟩)
    obtain ⟨hM2, hS2', ⟨ck2, hK2⟩, -⟩ := id k1
    obtain ⟨sl2, hS2⟩ := id hS2'
    obtain ⟨⟨pn, -⟩, cn, -⟩ := hS2.2.1.1 nb (by omega)
    obtain ⟨⟨pt, -⟩, ct, -⟩ := hS2.2.1.1 tip (by omega)
    have m103 := g_at hM2 (hS2.1.2.1 103 (by decide)) hK2
    rw [← k7]
    refine m_gj (g_at hM2 pn cn) rfl (m_gr m103 rfl (m_gj (g_at hM2 pt ct) rfl ?_))
    rw [← hwn', ← hwt]
    refine m_t (hcmp.mpr (by omega)) (m_gr m103 rfl (m_ck (g_at hM2 pn cn) ⟨0, 0, by omega, ?_⟩))
    refine w_mtb fu 0 0 cy ad mi (by omega) hM2 hS2.1.1 hS2.2.1 (by omega) hp1 hh1 (fun k hk => Nat.le_trans (hh60 k hk) (by decide)) (Nat.lt_succ_self _) (by omega) ⟨Nat.le_refl _, Nat.le_refl _⟩ (fun z' hz'1 _ _ hz'M => ?_)
    have ez := isM0_u hz'M hz
    subst ez
    obtain ⟨⟨pz, -⟩, cz, -⟩ := hS2.2.1.1 z' hz1
    refine osp_s (m_gr m103 rfl (m_gi (g_at hM2 pz cz) rfl (m_ck (g_at hM2 (hS2.1.2.1 130 (by decide)) hS2.2.2.1) ⟨0, 0, by omega, ?_⟩)))
    refine w_roll fu 0 0 cy ad mi hM2 hS2' hJ1.1 (by decide) (by omega) hO1 hp1 hmz ⟨Nat.le_refl _, Nat.le_refl _⟩ (fun M3 P3 q3 C3 hM3 hS3 hF3 => ?_)
    obtain ⟨k8, k9⟩ := kBd_l k1 hM3 hS3 hF3
    obtain ⟨sl3, hS3'⟩ := id hS3
    obtain ⟨⟨pz3, -⟩, cz3, -⟩ := hS3'.2.1.1 z' hz1
    have kz : q3 (kB z') = q2 (kB z') := hF3.2.2.1 _ (by unfold kB; omega) (by unfold kB; omega)
    rw [← kz]
    refine m_gi (g_at hM3 pz3 cz3) rfl (m_bn (e' := nI (upW hgt nb (hgt p + 1) z' + 1)) (nI_add _ 1) ?_)
    rw [kz]
    have h57 := hh60 nb (by omega)
    refine hmem fu MC MS cy ad mi P2 q2 C2 P3 q3 C3 M3 _ _ fu Φ (nI 0) (nI (sBr (upW rw nb R) (nb + 1))) (ncp cb nb) (by omega) (by omega) k8 k9 (by omega) (fun M4 P4 q4 C4 k10 k11 => hΦ M4 P4 q4 C4 ⟨k10, ⟨g, (k11.2.2.2 104 (by decide) (by decide)).trans k2, fun j hj => absurd hj (Nat.not_lt_zero _), k2'⟩, ?_, ⟨fun y => ?_, fun y => ?_⟩, fun j hj y => ?_⟩ ⟨fun j hj => ⟨fun y => ?_, fun y => ?_⟩, fun j a pj => ?_, fun j a b pj => ?_⟩)
    · obtain ⟨gi, e1, e2⟩ := k3
      exact ⟨gi, (k11.2.2.2 105 (by decide) (by decide)).trans e1, e2⟩
    · rcases k11.2.1 _ y with y | y | y
      · rcases (k4 224 (by decide)).mp y with y | y
        · exact hK.2.2.2.1.1 y
        · exact absurd y (by decide)
      · exact absurd y (by decide)
      · exact absurd y (by decide)
    · rcases k11.2.1 _ y with y | y | y
      · rcases (k4 225 (by decide)).mp y with y | y
        · exact hK.2.2.2.1.2 y
        · exact absurd y (by decide)
      · exact absurd y (by decide)
      · exact absurd y (by decide)
    · have hj' : kB (nb + 1) ≤ j := hj
      have : 256 ≤ kB (nb + 1) := by unfold kB; omega
      rcases k11.2.1 _ y with y | y | y
      · exact k5 j hj' y
      · omega
      · omega
    · rcases k11.2.1 _ y with y | y | y
      · exact (k6.1 j hj).mp y
      · omega
      · omega
    · exact k11.1 j ((k6.1 j hj).mpr y)
    · exact (k11.2.2.1 j (by omega) (by omega)).trans (k6.2.1 j a pj)
    · exact (k11.2.2.2 j (by omega) (by omega)).trans (k6.2.2 j a b pj)
