-- scripts hold, in the memory
set_option maxHeartbeats 400000 in
theorem tpT_c {S : Stk} : (match S with | x :: _ => truB x | _ => false) = tpT S := by
  cases S <;> rfl
set_option maxRecDepth 20000 in
set_option maxHeartbeats 8000000 in
theorem w_sh20 {F : Type} [Lean.Grind.Field F] [DecidableEq F] {c : Int → F} (hc : cH pP c) (fu MC MS : Nat) (cy : Nat → ClassId) (ad : Nat → Nat) (mi : Nat) (hfu : 20000 ≤ fu) {sgB : Nat → List Int32 → List Int32 → Bool} (hsg : ∀ e K G, sgB e K G = true ↔ sgO c e K G) {P : Nat → Prop} {q : Nat → Nat} (hq : IJ P q) (hP : ∀ k, k < 138 ∧ k ≠ 29 ∧ k ≠ 137 ∧ k ≠ 135 → P k) {C0 : Nat → va_E} {nb : Nat} {par hgt tim : Nat → Nat} {bit : Nat → Int32} {bad : Nat → Bool} {rw : Nat → List Int32} {vl : Nat → Bool} {mk : Nat → Nat} {sl : Cn → Int32} (hB : bkR P q C0 cy nb par hgt tim bit bad rw vl mk sl) (hA : bkA rw hgt tim nb) {rl tk : Int32} {tp b T : Nat} (hb0 : 0 < b) (hb : b < nb) (hT : T ≤ (TLb rw b).length) (hK : C0 103 = kpO q rl tp tk (nI T)) {u3 u4 u5 u6 u7 u8 u9 u10 u11 : Nat → Int32} (hl : lyR C0 q cy (.ref (q (kB b + 1))) (rw b).length (TLb rw b) u3 u4 u5 u6 u7 u8 u9 u10 u11) {f : Nat → Option Nat} (h134 : C0 134 = spA cy f) {U : List Cn} (hf : spQ rw hgt q b U T f) (hV : ∀ t, t < T → 0 < t → ∀ k, k < (txO rw b t).2.1.length → cVd rw nb ((spC rw b t (Uq rw hgt b U t)).getD k e_C)) {κ σ : Nat} (hκ : κ ≤ MC ∧ σ ≤ MS) {t : Nat} (ht0 : 0 < t) (ht : t < T) {Φ : Int32 → Mm → Prop} {k2 : Nat → Nat → Mm → Nat → Int32 → Prop} (hEnd : ∀ M' C', RG P q C' M' → fL C0 C' → mcX c C' q cy → scA sgB rw b t (Uq rw hgt b U t) → k2 κ σ M' (q 103) (nI (t + 1))) (hBad : ∀ M' C', RG P q C' M' → fL C0 C' → mcX c C' q cy → ¬ scA sgB rw b t (Uq rw hgt b U t) → Φ 0 M') : ∀ r k m C M, k + r = (txO rw b t).2.1.length → r < m → RG P q C M → fL C0 C → mcX c C q cy → (∀ j, j < k → fnS sgB rw b t j ((spC rw b t (Uq rw hgt b U t)).getD j e_C) = true) → xw_mK_scriptsHold_20 fu MC MS cy ad mi Φ k2 m κ σ M (q 103) (nI t) (nI (nIn ((TLb rw b).take t) + k))
  | r, k, m + 1, C, M, hk, hm, hM, hF, hX, hok => by
    show xv_mK_scriptsHold_20 fu MC MS cy ad mi Φ k2 (xw_mK_scriptsHold_20 fu MC MS cy ad mi Φ k2 m) κ σ M (q 103) (nI t) (nI (nIn ((TLb rw b).take t) + k))
    unfold xv_mK_scriptsHold_20
    have hbk := hA.2 b hb0 hb
    have hnn := bk_n hbk
    have h3000 := hbk.2.1
    have htl : t < (TLb rw b).length := by omega
    have hi : nIn ((TLb rw b).take (t + 1)) = nIn ((TLb rw b).take t) + (txO rw b t).2.1.length := nIn_tk (TLb rw b) t htl
    have hm2 := nIn_m2 (TLb rw b) (t := t + 1) (t' := (TLb rw b).length) (by omega)
    rw [List.take_length] at hm2
    obtain ⟨⟨b0, a1, a2, a3, a4, a5, a6, a7⟩, hL⟩ := id hl
    obtain ⟨⟨-, -, x3, x4, -, -⟩, y1, -⟩ := laH_x (TLb rw b) 0 0 0 hL t htl
    rw [Nat.zero_add] at x3 x4 y1
    rw [Nat.zero_add] at x3 x4
    have L1 : ∀ {C' : Nat → va_E} {M' : Mm}, RG P q C' M' → fL C0 C' → mat M' (q 103) (kpO q rl tp tk (nI T)) := fun h g => g_at h (hP 103 (by decide)) ((g 103 (by decide)).trans hK)
    have m103 := L1 hM hF
    have m120 := g_at hM (hP 120 (by decide)) ((hF 120 (by decide)).trans b0)
    have m122 := g_at hM (hP 122 (by decide)) ((hF 122 (by decide)).trans a2)
    have m125 := g_at hM (hP 125 (by decide)) ((hF 125 (by decide)).trans a5)
    have m126 := g_at hM (hP 126 (by decide)) ((hF 126 (by decide)).trans a6)
    have m134 := g_at hM (hP 134 (by decide)) ((hF 134 (by decide)).trans h134)
    refine m_gr m103 rfl (m_gr m120 rfl (m_bn (e' := nI (t + 1)) (nI_add t 1) (m_ai m122 (inb_nI (by omega) (by decide)) ?_)))
    rw [nI_clamp (n := t + 1) (by omega), x4]
    match r, hk, hm with
    | 0, hk, hm =>
      exact m_t ((nI_leI (a := nIn ((TLb rw b).take (t + 1))) (b := nIn ((TLb rw b).take t) + k) (by omega) (by omega)).mpr (by omega)) (m_bn (e' := nI (t + 1)) (nI_add t 1) (hEnd M C hM hF hX fun j hj => hok j (by omega)))
    | r + 1, hk, hm =>
      have hkl : k < (txO rw b t).2.1.length := by omega
      obtain ⟨w1, w2, w3⟩ := y1 k hkl
      have eI : ((TLb rw b).getD t d5).2.1[k] = (txO rw b t).2.1.getD k d3 := gD3 _ hkl
      rw [eI] at w2 w3
      have hin := (bk_t hbk htl).1.2.2.2.1 ((txO rw b t).2.1.getD k d3) (gD_d3 hkl)
      have hcl : (nI (nIn ((TLb rw b).take t) + k)).toNatClampNeg = nIn ((TLb rw b).take t) + k := nI_clamp (n := nIn ((TLb rw b).take t) + k) (by omega)
      have hxV := hV t ht ht0 k hkl
      have hfk := hf t k ht0 ht hkl
      obtain ⟨x, hxe⟩ : ∃ x, x = ((spC rw b t (Uq rw hgt b U t)).getD k e_C) := ⟨_, rfl⟩
      rw [← hxe] at hxV hfk
      have hx0 : 0 < x.1 := by
        rcases Nat.eq_zero_or_pos x.1 with z | z
        · have := hxV.1.2
          rw [z, TLb_0 hA.1] at this
          exact absurd this (Nat.not_lt_zero _)
        · exact z
      have hxk := hA.2 x.1 hx0 hxV.1.1
      have hcO : cnO rw x ∈ (txO rw x.1 x.2.1).2.2.2.1 := gD_d3 hxV.2
      have wO := (bk_t hxk hxV.1.2).1.2.2.2.2 (cnO rw x) hcO
      have hx3 := hxk.2.1
      obtain ⟨⟨-, p1, -⟩, -, c1, -⟩ := hB.1 b hb
      obtain ⟨⟨pb, pr, -⟩, cb, cr, -⟩ := hB.1 x.1 hxV.1.1
      obtain ⟨px, cx⟩ := hB.2 x hxV
      have hkb : ∀ y, 256 ≤ kB y := fun y => by unfold kB; omega
      have hk1 := hkb b
      have hk2 := hkb x.1
      have hk3 := ck_b (rw := rw) x
      obtain ⟨I, hIe⟩ : ∃ I, I = (txO rw b t).2.1.getD k d3 := ⟨_, rfl⟩
      rw [← hIe] at w2 w3 hin
      obtain ⟨h, oh, op, i1, i2, fr, ly, tx, inn, co, mit, D, mm, o, tks, se, H, e116, hD, hs⟩ := hX
      refine m_f (fun z => absurd ((nI_leI (a := nIn ((TLb rw b).take (t + 1))) (b := nIn ((TLb rw b).take t) + k) (by omega) (by omega)).mp z) (by omega)) (m_gr m103 rfl (m_arp m134 (inb_nI (by omega) (by decide)) (by rw [hcl]; exact hfk) (m_gr m103 rfl (m_gr m103 rfl (m_grp m120 (x := q (kB b + 1)) rfl (m_gr m103 rfl (m_gr m120 rfl (m_ai m125 (inb_nI (by omega) (by decide)) (m_gr m103 rfl (m_gr m120 rfl (m_ai m126 (inb_nI (by omega) (by decide)) ?_)))))))))))
      rw [hcl, w2, w3]
      refine w_Load hq hP fu hM H e116 p1 (Or.inr (by omega)) ((hF _ (Or.inr (by omega))).trans c1) (by omega) (wh := 0) (a := I.2.1) (l := I.2.2) (by decide) hin.2.2 (by omega) (fun i _ => hbk.2.2.1 _) _ (fun M1 C1 hM1 H1 e1 hF1 => ?_)
      have hF1' := fL_t hF hF1
      have mx1 := g_at hM1 px ((hF1' _ (Or.inr (by omega))).trans cx)
      refine m_gr (L1 hM1 hF1') rfl (m_gr mx1 rfl (m_gr (g_at hM1 pb ((hF1' _ (Or.inr (by omega))).trans cb)) rfl (m_gi mx1 rfl (m_gi mx1 rfl ?_))))
      refine w_Load hq hP fu hM1 H1 e1 pr (Or.inr (by omega)) ((hF1' _ (Or.inr (by omega))).trans cr) (by omega) (wh := 1) (a := (cnO rw x).2.1) (l := (cnO rw x).2.2) (by decide) wO.2.2.1 (by omega) (fun i _ => hxk.2.2.1 _) _ (fun M2 C2 hM2 H2 e2 hF2 => ?_)
      have hF2' := fL_t hF1' hF2
      have hD2 : ftB (va_cpy (lf (rw x.1)) (va_cpy (lf (rw b)) D I.2.1 (64 + 0 * 1000) I.2.2) (cnO rw x).2.1 (64 + 1 * 1000) (cnO rw x).2.2) := cpy_fB (cpy_fB hD (fun i _ => hbk.2.2.1 _)) (fun i _ => hxk.2.2.1 _)
      have hs2 : smD (va_cpy (lf (rw x.1)) (va_cpy (lf (rw b)) D I.2.1 (64 + 0 * 1000) I.2.2) (cnO rw x).2.1 (64 + 1 * 1000) (cnO rw x).2.2) := ⟨by rw [pk_cpy_out (by omega), pk_cpy_out (by omega)]; exact hs.1, fun j j1 j2 => by rw [pk_cpy_out (by omega), pk_cpy_out (by omega)]; exact hs.2 j j1 j2⟩
      have sA : bl (va_cpy (lf (rw x.1)) (va_cpy (lf (rw b)) D I.2.1 (64 + 0 * 1000) I.2.2) (cnO rw x).2.1 (64 + 1 * 1000) (cnO rw x).2.2) 64 I.2.2 = bl (lf (rw b)) I.2.1 I.2.2 := bl_c _ _ _ fun i hi => by
        rw [pk_cpy_out (by omega), pk_cpy_in (by omega) (by omega), show I.2.1 + (64 + i - (64 + 0 * 1000)) = I.2.1 + i from by omega]
      have sB : bl (va_cpy (lf (rw x.1)) (va_cpy (lf (rw b)) D I.2.1 (64 + 0 * 1000) I.2.2) (cnO rw x).2.1 (64 + 1 * 1000) (cnO rw x).2.2) 1064 (cnO rw x).2.2 = cnS rw x := bl_c _ _ _ fun i hi => by
        rw [pk_cpy_in (by omega) (by omega), show (cnO rw x).2.1 + (1064 + i - (64 + 1 * 1000)) = (cnO rw x).2.1 + i from by omega]
      generalize va_cpy (lf (rw x.1)) (va_cpy (lf (rw b)) D I.2.1 (64 + 0 * 1000) I.2.2) (cnO rw x).2.1 (64 + 1 * 1000) (cnO rw x).2.2 = D2 at *
      have mach2 := g_at hM2 (hP 110 (by decide)) H2.1.1
      refine m_gr (L1 hM2 hF2') rfl (m_gr (L1 hM2 hF2') rfl (m_ck mach2 ⟨0, 0, by omega, ?_⟩))
      refine w_spend hq hP fu 0 0 ad mi 0 0 hM2 H2 (fun M3 C3 hM3 H3 hF3 e3 => ?_)
      have hF3' := fL_t hF2' (fL_M hF3)
      have e3' := e3.trans e2
      refine m_gr (L1 hM3 hF3') rfl (m_ck (g_at hM3 (hP 110 (by decide)) H3.1.1) ⟨0, 0, by omega, ?_⟩)
      obtain ⟨Z, hZ⟩ : ∃ Z, Z = msG (lf (rw b)) (cnS rw x) k (txO rw b t) := ⟨_, rfl⟩
      have hO3 : oX c P C3 q cy (sgB (hN Z)) (.ref (q 120)) (nI t) (nI (nIn ((TLb rw b).take t) + k)) (.ref (q (ck rw x))) Z := by
        refine Or.inr ⟨rfl, ?_, fun K G => hsg (hN Z) K G⟩
        rw [hZ]
        exact msX_mk (bkR_c hB (fun k hk => hF3' k (Or.inr (by omega)))) hA hb0 hb htl hkl (lyR_c hl (fun k k1 k2 => hF3' k (Or.inr k1))) hxV
      have hfn : fnS sgB rw b t k x = scrS (sgB (hN Z)) hsF (bl (lf (rw b)) I.2.1 I.2.2) (cnS rw x) := by
        unfold fnS
        rw [hZ, hIe]
      have NO : fnS sgB rw b t k x ≠ true → ¬ scA sgB rw b t (Uq rw hgt b U t) := fun z y => z (by rw [hxe]; exact y k hkl)
      -- the first script
      refine w_run hc hq hP fu 0 0 hfu ad mi ⟨Nat.le_refl _, Nat.le_refl _⟩ hM3 (S := []) (fr := 2064) (wh := 0) (e := 64 + I.2.2) (by decide) H3 trivial (Nat.zero_le _) hD2 hs2 (by decide) (by decide) e3' ?_ (by omega) (by omega) hO3 (Or.inl rfl) ?_
      · show (upd (upd se 0 (nI (64 + 0 * 1000 + I.2.2))) 1 (nI (64 + 1 * 1000 + (cnO rw x).2.2))) 0 = nI (64 + I.2.2)
        rw [pk_un (by decide), pk_us]
      intro v M4 C4 h4 oh4 op4 i14 i24 fr4 mit4 D4 m4 o4 tk4 hM4 H4 hF4 hD4 hs4 hmt4 hd4 hres
      have hF4' := fL_t hF3' (fL_M hF4)
      have e4 : C4 116 = .inl (cy 1, 2, .inl (upd (upd se 0 (nI (64 + 0 * 1000 + I.2.2))) 1 (nI (64 + 1 * 1000 + (cnO rw x).2.2)))) := (hF4 116 (by omega)).trans e3'
      have hX4 : mcX c C4 q cy := ⟨h4, oh4, op4, i14, i24, fr4, _, _, _, _, mit4, D4, m4, o4, tk4, _, H4, e4, hD4, hs4⟩
      have e1s : bl D2 (64 + 0 * 1000) (64 + I.2.2 - (64 + 0 * 1000)) = bl (lf (rw b)) I.2.1 I.2.2 := by
        rw [show 64 + I.2.2 - (64 + 0 * 1000) = I.2.2 from by omega]
        exact sA
      rw [e1s] at hres
      rcases hres with ⟨r1, r2⟩ | ⟨S', fr2, r1, r2, r3, r4, r5, r6, r7, r8⟩
      · subst r2
        refine m_t rfl (hBad M4 C4 hM4 hF4' hX4 (NO ?_))
        rw [hfn]
        unfold scrS
        rw [r1]
        show ¬ false = true
        decide
      subst r2 r3 r4
      refine m_f (by decide) (m_gr (L1 hM4 hF4') rfl (m_ck (g_at hM4 (hP 110 (by decide)) H4.1.1) ⟨0, 0, by omega, ?_⟩))
      have hO4 := oX_c hO3 hF4
      refine w_run hc hq hP fu 0 0 hfu ad mi ⟨Nat.le_refl _, Nat.le_refl _⟩ hM4 (S := S') (fr := fr2) (wh := 1) (e := 1064 + (cnO rw x).2.2) (by decide) H4 r7 r8 hD4 hs4 r5 (by omega) e4 ?_ (by omega) (by omega) hO4 hmt4 ?_
      · show (upd (upd se 0 (nI (64 + 0 * 1000 + I.2.2))) 1 (nI (64 + 1 * 1000 + (cnO rw x).2.2))) 1 = nI (1064 + (cnO rw x).2.2)
        rw [pk_us]
      intro v M5 C5 h5 oh5 op5 i15 i25 fr5 mit5 D5 m5 o5 tk5 hM5 H5 hF5 hD5 hs5 hmt5 hd5 hres
      have hF5' := fL_t hF4' (fL_M hF5)
      have e5 := (hF5 116 (by omega)).trans e4
      have hX5 : mcX c C5 q cy := ⟨h5, oh5, op5, i15, i25, fr5, _, _, _, _, mit5, D5, m5, o5, tk5, _, H5, e5, hD5, hs5⟩
      have e2s : bl D4 (64 + 1 * 1000) (1064 + (cnO rw x).2.2 - (64 + 1 * 1000)) = cnS rw x := by
        rw [show 1064 + (cnO rw x).2.2 - (64 + 1 * 1000) = (cnO rw x).2.2 from by omega, ← sB]
        exact bl_c _ _ _ fun i hi => hd4 _ (by omega) (by omega)
      rw [e2s] at hres
      rcases hres with ⟨s1, s2⟩ | ⟨S2, fr3, s1, s2, s3, s4, s5, s6, s7, s8⟩
      · subst s2
        refine m_t rfl (hBad M5 C5 hM5 hF5' hX5 (NO ?_))
        rw [hfn]
        unfold scrS
        rw [r1]
        show ¬ (match rnS (sgB (hN Z)) hsF 1001 (cnS rw x) S' [] 0 [] with
          | some (x :: _) => truB x
          | _ => false) = true
        rw [s1]
        show ¬ false = true
        decide
      subst s2 s3 s4
      have hfin : fnS sgB rw b t k x = tpT S2 := by
        rw [hfn]
        unfold scrS
        rw [r1]
        show (match rnS (sgB (hN Z)) hsF 1001 (cnS rw x) S' [] 0 [] with
          | some (x :: _) => truB x
          | _ => false) = _
        rw [s1]
        cases S2 <;> rfl
      refine m_f (by decide) (m_gr (L1 hM5 hF5') rfl ?_)
      refine w_Ends hq hP fu (by omega) hM5 hD5 (by omega) s7 (by omega) H5 _ (fun v M6 C6 hM6 H6 hF6 e6 hv => ?_)
      have hF6' := fL_t hF5' (fL_M hF6)
      have hX6 : mcX c C6 q cy := ⟨_, oh5, op5, i15, i25, _, _, _, _, _, mit5, D5, m5, o5, tk5, _, H6, e6.trans e5, hD5, hs5⟩
      rcases hv with ⟨z, e⟩ | ⟨z, e⟩
      · subst e
        refine m_f (by decide) (m_bn (e' := nI (nIn ((TLb rw b).take t) + (k + 1))) (nI_add (nIn ((TLb rw b).take t) + k) 1) ?_)
        refine w_sh20 hc fu MC MS cy ad mi hfu hsg hq hP hB hA hb0 hb hT hK hl h134 hf hV hκ ht0 ht hEnd hBad r (k + 1) m C6 M6 (by omega) (by omega) hM6 hF6' hX6 (fun j hj => ?_)
        by_cases y : j = k
        · subst y
          rw [← hxe, hfin]
          exact z
        · exact hok j (by omega)
      · subst e
        refine m_t rfl (hBad M6 C6 hM6 hF6' hX6 (NO ?_))
        rw [hfin]
        exact z
set_option maxHeartbeats 2000000 in
theorem w_sh2 {F : Type} [Lean.Grind.Field F] [DecidableEq F] {c : Int → F} (hc : cH pP c) (fu MC MS : Nat) (cy : Nat → ClassId) (ad : Nat → Nat) (mi : Nat) (hfu : 20000 ≤ fu) {sgB : Nat → List Int32 → List Int32 → Bool} (hsg : ∀ e K G, sgB e K G = true ↔ sgO c e K G) {P : Nat → Prop} {q : Nat → Nat} (hq : IJ P q) (hP : ∀ k, k < 138 ∧ k ≠ 29 ∧ k ≠ 137 ∧ k ≠ 135 → P k) {C0 : Nat → va_E} {nb : Nat} {par hgt tim : Nat → Nat} {bit : Nat → Int32} {bad : Nat → Bool} {rw : Nat → List Int32} {vl : Nat → Bool} {mk : Nat → Nat} {sl : Cn → Int32} (hB : bkR P q C0 cy nb par hgt tim bit bad rw vl mk sl) (hA : bkA rw hgt tim nb) {rl tk : Int32} {tp b T : Nat} (hb0 : 0 < b) (hb : b < nb) (hT : T ≤ (TLb rw b).length) (hK : C0 103 = kpO q rl tp tk (nI T)) {u3 u4 u5 u6 u7 u8 u9 u10 u11 : Nat → Int32} (hl : lyR C0 q cy (.ref (q (kB b + 1))) (rw b).length (TLb rw b) u3 u4 u5 u6 u7 u8 u9 u10 u11) {f : Nat → Option Nat} (h134 : C0 134 = spA cy f) {U : List Cn} (hf : spQ rw hgt q b U T f) (hV : ∀ t, t < T → 0 < t → ∀ k, k < (txO rw b t).2.1.length → cVd rw nb ((spC rw b t (Uq rw hgt b U t)).getD k e_C)) {κ σ : Nat} (hκ : κ ≤ MC ∧ σ ≤ MS) {Φ : Int32 → Mm → Prop} (hΦ : ∀ v M' C', RG P q C' M' → fL C0 C' → mcX c C' q cy → tf (∀ t, 0 < t → t < T → scA sgB rw b t (Uq rw hgt b U t)) v → Φ v M') : ∀ r t m C M, t + r = T + 1 → r < m → 0 < t → RG P q C M → fL C0 C → mcX c C q cy → (∀ t', 0 < t' → t' < t → scA sgB rw b t' (Uq rw hgt b U t')) → xw_mK_scriptsHold_2 fu MC MS cy ad mi Φ m κ σ M (q 103) (nI t)
  | r, t, m + 1, C, M, hr, hm, ht0, hM, hF, hX, hok => by
    show xv_mK_scriptsHold_2 fu MC MS cy ad mi Φ (xw_mK_scriptsHold_2 fu MC MS cy ad mi Φ m) κ σ M (q 103) (nI t)
    unfold xv_mK_scriptsHold_2
    have hbk := hA.2 b hb0 hb
    have hnn := bk_n hbk
    have h3000 := hbk.2.1
    have m103 := g_at hM (hP 103 (by decide)) ((hF 103 (by decide)).trans hK)
    refine m_gi m103 rfl ?_
    by_cases g : T ≤ t
    · exact m_t ((nI_leI (a := T) (b := t) (by omega) (by omega)).mpr g) (hΦ 1 M C hM hF hX (tf_1 fun t' h1 h2 => hok t' h1 (by omega)))
    · obtain ⟨r', rfl⟩ : ∃ r', r = r' + 1 := ⟨r - 1, by omega⟩
      obtain ⟨⟨b0, a1, a2, a3⟩, hL⟩ := id hl
      obtain ⟨⟨-, -, x3, -⟩, -⟩ := laH_x (TLb rw b) 0 0 0 hL t (by omega)
      rw [Nat.zero_add, Nat.zero_add] at x3
      refine m_f (fun z => g ((nI_leI (a := T) (b := t) (by omega) (by omega)).mp z)) (m_gr m103 rfl (m_gr (g_at hM (hP 120 (by decide)) ((hF 120 (by decide)).trans b0)) rfl (m_ai (g_at hM (hP 122 (by decide)) ((hF 122 (by decide)).trans a2)) (inb_nI (by omega) (by decide)) ?_)))
      rw [nI_clamp (n := t) (by omega), x3]
      have h73 := (bk_t hbk (t := t) (by omega)).2.1.1
      refine w_sh20 hc fu MC MS cy ad mi hfu hsg hq hP hB hA hb0 hb hT hK hl h134 hf hV hκ ht0 (by omega) (fun M' C' c1 c2 c3 c4 => ?_) (fun M' C' c1 c2 c3 c4 => hΦ 0 M' C' c1 c2 c3 (tf_0 fun z => c4 (z t ht0 (by omega)))) (txO rw b t).2.1.length 0 fu C M (Nat.zero_add _) (by omega) hM hF hX (fun j hj => absurd hj (Nat.not_lt_zero _))
      refine w_sh2 hc fu MC MS cy ad mi hfu hsg hq hP hB hA hb0 hb hT hK hl h134 hf hV hκ hΦ r' (t + 1) m C' M' (by omega) (by omega) (by omega) c1 c2 c3 (fun t' h1 h2 => ?_)
      by_cases y : t' = t
      · subst y
        exact c4
      · exact hok t' h1 (by omega)
