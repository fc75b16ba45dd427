-- a block is connected, in the memory
/-- the marks behind it -/
def mkC (rw : Nat → List Int32) (mk : Nat → Nat) (b T : Nat) (s : Ld) : Nat → Nat := if T = (TLb rw b).length then upW mk b (Sq rw b s T).2.1.length else mk
def cnP (P0 : Nat → Prop) (q0 : Nat → Nat) (C0 : Nat → va_E) (cy : Nat → ClassId) (ad : Nat → Nat) (nb : Nat) (par hgt tim : Nat → Nat) (bit : Nat → Int32) (bad : Nat → Bool) (rw : Nat → List Int32) (vl : Nat → Bool) (mk : Nat → Nat) (rl tk : Int32) (tp b : Nat) (s : Ld) (U : List Cn) (t : Nat) (P : Nat → Prop) (q : Nat → Nat) (C : Nat → va_E) (M : Mm) : Prop := RG P q C M ∧ ldM P q C cy ad nb par hgt tim bit bad rw vl mk (Sq rw b s t) ∧ C 103 = kpO q rl tp tk (nI t) ∧ (∃ (u3 u4 u5 u6 u7 u8 u9 u10 u11 : Nat → Int32), lyR C q cy (.ref (q (kB b + 1))) (rw b).length (TLb rw b) u3 u4 u5 u6 u7 u8 u9 u10 u11) ∧ (∃ f, C 134 = spA cy f ∧ spQ rw hgt q b U t f) ∧ coF P0 q0 C0 P q C
set_option maxHeartbeats 8000000 in
theorem w_cn27 (fu MC MS : Nat) (cy : Nat → ClassId) (ad : Nat → Nat) (mi : Nat) {P0 : Nat → Prop} {q0 : Nat → Nat} {C0 : Nat → va_E} {nb : Nat} {par hgt tim : Nat → Nat} {bit : Nat → Int32} {bad : Nat → Bool} {rw : Nat → List Int32} {vl : Nat → Bool} {mk : Nat → Nat} {N : Nat} (hN : 2 * N + 10 ≤ 60000) (hNf : 2 * N + 400 ≤ fu) (hO : oK rw nb) (hp : ∀ k, 0 < k → par k < k) (hA : bkA rw hgt tim nb) (hh : ∀ k, k < nb → hgt k ≤ 60) {rl tk : Int32} {tp b : Nat} (htp : tp < nb) (hb0 : 0 < b) (hb : b < nb) {s : Ld} (hI : ldI rw nb N s) {U : List Cn} (hU : ∀ x, x ∈ s.1 ↔ x ∈ U) (hN2 : s.2.1.length + nIn (TLb rw b) + 2 * nOut (TLb rw b) ≤ N) {T w : Nat} (hT : cnT rw hgt b U T w) {Φ : Int32 → Mm → Prop} (hΦ : ∀ M' P' q' C', cnP P0 q0 C0 cy ad nb par hgt tim bit bad rw vl (mkC rw mk b T s) rl tk tp b s U T P' q' C' M' → Φ (nI w) M') : ∀ r t m κ σ P q C M, t + r = T → r + 1 < m → cnP P0 q0 C0 cy ad nb par hgt tim bit bad rw vl mk rl tk tp b s U t P q C M → κ + grS (Sq rw b s t) (Sq rw b s T) ≤ MC ∧ σ + 4 * grS (Sq rw b s t) (Sq rw b s T) ≤ MS → xw_mK_connect_27 fu MC MS cy ad mi Φ m κ σ M (q0 103) (q0 (kB b)) (lN (Fq rw hgt b U t)) (nI t)
  | r, t, m + 1, κ, σ, P, q, C, M, hr, hm, hC, hκ => by
    show xv_mK_connect_27 fu MC MS cy ad mi Φ (xw_mK_connect_27 fu MC MS cy ad mi Φ m) κ σ M (q0 103) (q0 (kB b)) (lN (Fq rw hgt b U t)) (nI t)
    unfold xv_mK_connect_27
    obtain ⟨hM, hS, hK, ⟨u3, u4, u5, u6, u7, u8, u9, u10, u11, hl⟩, ⟨f, h134, hf⟩, hF⟩ := hC
    have hbk := hA.2 b hb0 hb
    have hnn := bk_n hbk
    have h3000 := hbk.2.1
    have hr0 := TLb_0 hA.1
    obtain ⟨hT1, hT2, hT3⟩ := hT
    have k256 : 256 ≤ kB b := by unfold kB; omega
    obtain ⟨i1, i2, i3, D, i4, i5⟩ := Sq_I hI hb hbk hU hN2 t (by omega) (fun t' ht' => hT2 t' (by omega))
    have hll : (Sq rw b s t).2.1.length = s.2.1.length + D.length := by rw [i4, List.length_append]
    obtain ⟨sl, hS1⟩ := id hS
    obtain ⟨⟨hq, hP, -⟩, hB, h130, -⟩ := id hS1
    obtain ⟨⟨p0, p1, -⟩, c0, c1, -⟩ := hB.1 b hb
    have e103 : q 103 = q0 103 := hF.2.2.1 103 (by decide) (by decide)
    have eb : q (kB b) = q0 (kB b) := hF.2.2.1 (kB b) (by omega) (by omega)
    have m103 := g_at hM (hP 103 (by decide)) hK
    have m120 := g_at hM (hP 120 (by decide)) hl.1.1
    have mb := g_at hM p0 c0
    have hVc : ∀ t', t' ≤ t → ∀ c, c ∈ Uq rw hgt b U t' → cVd rw nb c := fun t' ht' c hc => by
      obtain ⟨j1, -, j3, -⟩ := Sq_I hI hb hbk hU hN2 t' (by omega) (fun x hx => hT2 x (by omega))
      exact ldI_v j1 ((j3 c).mpr hc)
    have hFb := Fq_b (b := b) (U := U) hA t (by omega) (fun t' ht' => hVc t' (by omega))
    have hmt := nIn_mo (TLb rw b) t
    have hFb2 : Fq rw hgt b U t ≤ 2100000000000000 * 73 := Nat.le_trans hFb (Nat.mul_le_mul_left _ (by omega))
    rw [← e103, ← eb]
    refine m_gr m103 rfl (m_gi m120 rfl ?_)
    by_cases g : (TLb rw b).length ≤ t
    · have et : t = (TLb rw b).length := by omega
      have eT : T = (TLb rw b).length := by omega
      have e2 : t = T := by omega
      subst e2
      have hw : w = if sbs (hgt b) + Fq rw hgt b U t < ouS rw b 0 then 14 else 0 := by
        rcases hT3 with z | z
        · omega
        · exact z.2
      have hmk : mkC rw mk b t s = upW mk b (Sq rw b s t).2.1.length := if_pos eT
      rw [hmk] at hΦ
      refine m_t ((nI_leI (a := (TLb rw b).length) (b := t) (by omega) (by omega)).mpr g) (m_gr m103 rfl (m_ck (g_at hM (hP 130 (by decide)) h130) ⟨0, 0, by omega, w_mark fu 0 0 cy ad mi hM hS (by omega) ?_⟩))
      refine g_pt hM hq p0 c0 (show 11 < 12 by decide) (fun M1 hM1 => ?_)
      have hS' := ldM_s hS hO (x := b) (bad' := bad) (vl' := vl) (mk' := upW mk b (Sq rw b s t).2.1.length) (fun x hx => ⟨rfl, rfl, upW_n hx⟩)
      obtain ⟨C1, hC1⟩ : ∃ C1, C1 = va_up C (kB b) (blO q par hgt tim bit b (bad b) (vl b) (upW mk b (Sq rw b s t).2.1.length b)) := ⟨_, rfl⟩
      rw [← hC1] at hS'
      have hM1' : RG P q C1 M1 := by
        rw [hC1, upW_s]
        exact hM1
      have n1 : ∀ {j}, j ≠ kB b → C1 j = C j := fun h => by rw [hC1]; exact up_n h
      have c0' : C1 (kB b) = blO q par hgt tim bit b (bad b) (vl b) (Sq rw b s t).2.1.length := by rw [hC1, up_e, upW_s]
      have hK1 := (n1 (j := 103) (by omega)).trans hK
      have hl1 := lyR_c hl (C' := C1) (fun k k1 k2 => n1 (by omega))
      obtain ⟨-, a0, x1, x2, hTx⟩ := pBl_B hbk.1
      have hlen0 : 0 < (TLb rw b).length := by
        have := hbk.2.2.2.2.1
        rw [List.length_map] at this
        exact this
      refine m_gr (g_at hM1' (hP 103 (by decide)) hK1) rfl ?_
      refine w_VO fu (by omega) hM1' hq hP hl1 p1 (by omega) ((n1 (by omega)).trans c1) h3000 (Nat.le_refl _) hTx (t := 0) hlen0 _ (fun M2 hM2 => m_ck (g_at hM2 p0 c0') ⟨0, 0, by omega, ?_⟩)
      unfold xw_mBl_subsidy
      have h60 := hh b hb
      refine m_gi (g_at hM2 p0 c0') rfl (m_bn (l_sbs h60).1 ?_)
      have hou := ouS_b hbk hlen0
      have hsb : sbs (hgt b) ≤ 5000000000 := Nat.div_le_self _ _
      have eo : sumL (fun o : In3 => leP (lf (rw b)) o.1 8) ((TLb rw b).getD 0 d5).2.2.2.1 = ouS rw b 0 := rfl
      rw [eo]
      show if lg_cmp (lN (ouS rw b 0)) (lN (sbs (hgt b)) + lN (Fq rw hgt b U t)) ≤ 0 then Φ 0 M2 else Φ 14 M2
      rw [lN_a]
      have fin : Φ (nI w) M2 := hΦ M2 P q C1 ⟨hM2, hS', hK1, ⟨u3, u4, u5, u6, u7, u8, u9, u10, u11, hl1⟩, ⟨f, (n1 (by omega)).trans h134, hf⟩, coF_t hF (coF_r (fun j a _ _ _ _ _ _ _ => n1 (by omega)))⟩
      by_cases cw : sbs (hgt b) + Fq rw hgt b U t < ouS rw b 0
      · rw [if_pos cw] at hw
        subst hw
        exact m_f (fun e => by have := (lg_le' (lN_I (show ouS rw b 0 < 2 ^ 63 by omega)) (lN_I (show sbs (hgt b) + Fq rw hgt b U t < 2 ^ 63 by omega))).mp e; omega) fin
      · rw [if_neg cw] at hw
        subst hw
        exact m_t ((lg_le' (lN_I (show ouS rw b 0 < 2 ^ 63 by omega)) (lN_I (show sbs (hgt b) + Fq rw hgt b U t < 2 ^ 63 by omega))).mpr (by omega)) fin
    · have htl : t < (TLb rw b).length := by omega
      have hi : nIn ((TLb rw b).take (t + 1)) = nIn ((TLb rw b).take t) + (txO rw b t).2.1.length := nIn_tk (TLb rw b) t htl
      have ho : nOut ((TLb rw b).take (t + 1)) = nOut ((TLb rw b).take t) + (txO rw b t).2.2.2.1.length := nOut_tk (TLb rw b) t htl
      have hm1 := nOut_m2 (TLb rw b) (t := t + 1) (t' := (TLb rw b).length) (by omega)
      have hm2 := nIn_m2 (TLb rw b) (t := t + 1) (t' := (TLb rw b).length) (by omega)
      rw [List.take_length] at hm1 hm2
      refine m_f (fun z => g ((nI_leI (a := (TLb rw b).length) (b := t) (by omega) (by omega)).mp z)) ?_
      obtain ⟨e1, e2⟩ := spn_p i3 (ldI_s i1).2 b t
      -- it went well
      have GO : t < T → ∀ κ' σ' M' f', RG P q (va_up C 134 (spA cy f')) M' → (∀ i, i < nIn ((TLb rw b).take t) → f' i = f i) → (t = 0 ∨ (none ∉ spn rw b t (Sq rw b s t).1 ∧ ∀ k, k < (txO rw b t).2.1.length → f' (nIn ((TLb rw b).take t) + k) = some (q (ck rw ((spC rw b t (Sq rw b s t).1).getD k e_C))))) → κ' ≤ κ ∧ σ' ≤ σ → xv_mK_connect_94 fu MC MS cy ad mi Φ (xw_mK_connect_27 fu MC MS cy ad mi Φ m) κ' σ' M' (q 103) (q (kB b)) (lN (Fq rw hgt b U (t + 1))) (nI t) := by
        intro htT κ' σ' M' f' hM' hf0 hf1 hκ'
        unfold xv_mK_connect_94
        obtain ⟨r', rfl⟩ : ∃ r', r = r' + 1 := ⟨r - 1, by omega⟩
        have g1 : leC (Sq rw b s t) (Sq rw b s (t + 1)) := Sq_m hI hb hbk hU hN2 (T := t + 1) (by omega) (fun x hx => hT2 x (by omega)) 1 t rfl
        have g2 : leC (Sq rw b s (t + 1)) (Sq rw b s T) := Sq_m hI hb hbk hU hN2 hT1 hT2 r' (t + 1) (by omega)
        have g3 := (leC_t g1 g2).2
        rw [g3] at hκ
        have n1 : ∀ {j}, j ≠ 134 → va_up C 134 (spA cy f') j = C j := fun h => up_n h
        have hK' := (n1 (j := 103) (by decide)).trans hK
        have hl' := lyR_c hl (C' := va_up C 134 (spA cy f')) (fun k k1 k2 => n1 (by omega))
        have hS' := ldM_c hS (C' := va_up C 134 (spA cy f')) (fun k hk => n1 (by omega))
        refine m_ck (g_at hM' (hP 103 (by decide)) hK') ⟨grS (Sq rw b s t) (Sq rw b s (t + 1)), 4 * grS (Sq rw b s t) (Sq rw b s (t + 1)), by omega, ?_⟩
        refine w_exch fu _ _ cy ad mi (by omega) hP hK' hb hbk htl hl' (f := f') up_e hN (by omega) hO hp hr0 hM' hS' i1 hf1 (by omega) (by show 0 + grS (Sq rw b s t) (Sq rw b s (t + 1)) ≤ _ ∧ 0 + 4 * grS (Sq rw b s t) (Sq rw b s (t + 1)) ≤ _; omega) (fun M2 P2 q2 C2 hM2 hS2 hF2 => ?_)
        obtain ⟨sl2, hS2'⟩ := id hS2
        have hq2 := hS2'.1.1
        have hP2 := hS2'.1.2.1
        have q2e : ∀ j, j ≠ 220 → j ≠ 221 → q2 j = q j := hF2.2.2.1
        have kt : 256 ≤ kB tp := by unfold kB; omega
        have hK2 : C2 103 = kpO q2 rl tp tk (nI t) := (hF2.2.2.2 103 (by decide) (by decide) (by decide) (by decide) (by decide)).trans (hK'.trans (kpO_q (fun j hj => q2e j (by omega) (by omega)) (q2e _ (by omega) (by omega)) _ _ _).symm)
        rw [← q2e 103 (by decide) (by decide)]
        refine m_gi (g_at hM2 (hP2 103 (by decide)) hK2) rfl (m_bn (e' := nI (t + 1)) (nI_add t 1) (g_pt hM2 hq2 (hP2 103 (by decide)) hK2 (show 12 < 13 by decide) (fun M3 hM3 => m_bn (e' := nI (t + 1)) (nI_add t 1) ?_)))
        rw [q2e 103 (by decide) (by decide), e103, eb]
        have n3 : ∀ {x : va_E} {j}, j ≠ 103 → va_up C2 103 x j = C2 j := fun h => up_n h
        have c2e : ∀ j, j < 256 → j ≠ 131 → j ≠ 132 → j ≠ 134 → j ≠ 220 → j ≠ 221 → C2 j = C j := fun j a b d e f g => (hF2.2.2.2 j a b d f g).trans (n1 e)
        refine w_cn27 fu MC MS cy ad mi hN hNf hO hp hA hh htp hb0 hb hI hU hN2 ⟨hT1, hT2, hT3⟩ hΦ r' (t + 1) m _ _ P2 q2 (va_up C2 103 (kpO q2 rl tp tk (nI (t + 1)))) M3 (by omega) (by omega) ⟨hM3, ldM_c hS2 (fun k hk => n3 (by omega)), up_e, ⟨u3, u4, u5, u6, u7, u8, u9, u10, u11, ?_⟩, ⟨f', (n3 (by decide)).trans ((hF2.2.2.2 134 (by decide) (by decide) (by decide) (by decide) (by decide)).trans up_e), fun t' k h0 ht' hk => ?_⟩, ?_⟩ (by omega)
        · rw [show q2 (kB b + 1) = q (kB b + 1) from q2e _ (by omega) (by omega)]
          exact lyR_q hl (fun k k1 k2 => ⟨(n3 (by omega)).trans (c2e k (by omega) (by omega) (by omega) (by omega) (by omega) (by omega)), q2e k (by omega) (by omega)⟩)
        · have hcb := ck_b (rw := rw) ((spC rw b t' (Uq rw hgt b U t')).getD k e_C)
          rw [q2e _ (by omega) (by omega)]
          by_cases z : t' = t
          · subst z
            rw [← e2]
            exact (hf1.resolve_left (by omega)).2 k hk
          · exact spQ_f (by omega) hf hf0 t' k h0 (by omega) hk
        · exact coF_t hF (coF_t (coF_r (C' := va_up C 134 (spA cy f')) (fun j a _ _ _ _ d _ _ => n1 d)) (coF_t (coF_l hF2) (coF_r (fun j a d _ _ _ _ _ _ => n3 d))))
      by_cases g0 : t = 0
      · have htT : t < T := by
          rcases hT3 with ⟨z1, z2, z3⟩ | ⟨z, -⟩
          · rcases Nat.lt_or_ge t T with y | y
            · exact y
            · have : T = t := by omega
              rw [this, g0, stp0_z.1] at z3
              exact absurd z3 z2
          · omega
        refine m_t (by rw [g0]; decide) ?_
        have := GO htT κ σ M f (RG_c hM (fun j _ => by
          by_cases z : j = 134
          · rw [z, up_e, h134]
          · rw [up_n z])) (fun _ _ => rfl) (Or.inl g0) ⟨Nat.le_refl _, Nat.le_refl _⟩
        rw [show Fq rw hgt b U (t + 1) = Fq rw hgt b U t from by
          show Fq rw hgt b U t + (stp0 rw hgt b t (Uq rw hgt b U t)).2.2 = _
          rw [g0, stp0_z.2]
          rfl] at this
        exact this
      · obtain ⟨s1, s2, s3, s4⟩ := stp0_c (rw := rw) (hgt := hgt) (b := b) (t := t) (U := Uq rw hgt b U t) g0
        -- it went wrong
        have BAD : ∀ v, v ≠ 0 → (stp0 rw hgt b t (Uq rw hgt b U t)).1 = v → ∀ M' f', RG P q (va_up C 134 (spA cy f')) M' → (∀ i, i < nIn ((TLb rw b).take t) → f' i = f i) → Φ (nI v) M' := by
          intro v hv hv2 M' f' hM' hf0
          have htT : t = T := by
            rcases Nat.lt_or_ge t T with y | y
            · have := hT2 t y
              rw [hv2] at this
              exact absurd this hv
            · omega
          subst htT
          have ew : w = v := by
            rcases hT3 with ⟨z1, z2, z3⟩ | ⟨z, -⟩
            · exact z3.trans hv2
            · omega
          subst ew
          have hmk : mkC rw mk b t s = mk := if_neg (by omega)
          rw [hmk] at hΦ
          have n1 : ∀ {j}, j ≠ 134 → va_up C 134 (spA cy f') j = C j := fun h => up_n h
          exact hΦ M' P q _ ⟨hM', ldM_c hS (fun k hk => n1 (by omega)), (n1 (by decide)).trans hK, ⟨u3, u4, u5, u6, u7, u8, u9, u10, u11, lyR_c hl (fun k k1 k2 => n1 (by omega))⟩, ⟨f', up_e, spQ_f (by omega) hf hf0⟩, coF_t hF (coF_r (fun j a _ _ _ _ d _ _ => n1 d))⟩
        refine m_f (fun z => g0 ?_) (m_ck m103 ⟨0, 0, by omega, ?_⟩)
        · have := (nI_leI (a := t) (b := 0) (by omega) (by omega)).mp z
          omega
        unfold xw_mK_collect
        obtain ⟨⟨b0', a1', a2', a3'⟩, hLH⟩ := id hl
        obtain ⟨⟨-, -, x3, -⟩, -⟩ := laH_x (TLb rw b) 0 0 0 hLH t htl
        rw [Nat.zero_add, Nat.zero_add] at x3
        refine m_gr m103 rfl (m_gr m120 rfl (m_ai (g_at hM (hP 122 (by decide)) a2') (inb_nI (by omega) (by decide)) ?_))
        rw [nI_clamp (n := t) (by omega), x3]
        refine w_cl10 fu 0 0 cy ad mi hS i1 (by omega) hO hr0 (fun k hk => Nat.le_trans (hh k hk) (by decide)) hK hb hbk htl hl (by omega) (f0 := f) (fun v M1 f1 hM1 hf0 hcs => ?_) (txO rw b t).2.1.length 0 fu f M (Nat.zero_add _) (by omega) (RG_c hM (fun j _ => by
          by_cases z : j = 134
          · rw [z, up_e, h134]
          · rw [up_n z])) (fun _ _ => rfl) (fun j hj => absurd hj (Nat.not_lt_zero _))
        rw [e1, e2] at hcs
        rcases hcs with ⟨hv, hno⟩ | ⟨hno, hfk, hcs⟩
        · subst hv
          exact m_f (by decide) (BAD 10 (by decide) (s1 hno) M1 f1 hM1 hf0)
        rcases hcs with ⟨hv, hany⟩ | ⟨hv, hany⟩
        · subst hv
          exact m_f (by decide) (BAD 11 (by decide) (s2 hno hany) M1 f1 hM1 hf0)
        subst hv
        have n1 : ∀ {j}, j ≠ 134 → va_up C 134 (spA cy f1) j = C j := fun h => up_n h
        have hK' := (n1 (j := 103) (by decide)).trans hK
        have hl' := lyR_c hl (C' := va_up C 134 (spA cy f1)) (fun k k1 k2 => n1 (by omega))
        have hB' := bkR_c hB (C' := va_up C 134 (spA cy f1)) (fun k hk => n1 (by omega))
        refine m_t rfl (m_ck (g_at hM1 (hP 103 (by decide)) hK') ⟨0, 0, by omega, ?_⟩)
        unfold xw_mK_spentValue
        refine m_gr (g_at hM1 (hP 103 (by decide)) hK') rfl (m_gr (g_at hM1 (hP 120 (by decide)) hl'.1.1) rfl (m_ai (g_at hM1 (hP 122 (by decide)) hl'.1.2.2.1) (inb_nI (by omega) (by decide)) ?_))
        rw [nI_clamp (n := t) (by omega), x3]
        have hcm : ∀ k, k < (txO rw b t).2.1.length → cVd rw nb ((spC rw b t (Uq rw hgt b U t)).getD k e_C) := fun k hk => by
          obtain ⟨c, y1, y2, -⟩ := spC_mem hno hk
          rw [y2]
          exact hVc t (Nat.le_refl _) c (fnd_in y1).1
        refine w_sv13 fu 0 0 cy ad mi hP hK' hb hbk htl hl' (f := f1) up_e hM1 hB' (cs := spC rw b t (Uq rw hgt b U t)) spC_len (fun k hk => ⟨hcm k hk, hfk k hk⟩) ?_ (txO rw b t).2.1.length 0 fu (Nat.zero_add _) (by omega)
        obtain ⟨-, a0, y1, y2, hTx⟩ := pBl_B hbk.1
        refine m_gr (g_at hM1 (hP 103 (by decide)) hK') rfl ?_
        refine w_VO fu (by omega) hM1 hq hP hl' p1 (by omega) ((n1 (by omega)).trans c1) h3000 (Nat.le_refl _) hTx (t := t) htl _ (fun M2 hM2 => ?_)
        have eo : sumL (fun o : In3 => leP (lf (rw b)) o.1 8) ((TLb rw b).getD t d5).2.2.2.1 = ouS rw b t := rfl
        rw [eo]
        have hou := ouS_b hbk htl
        have hsp := spS_b hA (hVc t (Nat.le_refl _)) hno
        have hsp2 : sumL (cnV rw) (spC rw b t (Uq rw hgt b U t)) ≤ 2100000000000000 * 73 := Nat.le_trans hsp (Nat.mul_le_mul_left _ (by omega))
        generalize hSV : sumL (cnV rw) (spC rw b t (Uq rw hgt b U t)) = sv at *
        refine m_b ?_
        have hsub : (lN sv - lN (ouS rw b t)).toInt = (sv : Int) - (ouS rw b t : Int) := sub_l (by omega) (by omega)
        by_cases g3 : sv < ouS rw b t
        · refine m_f (fun z => ?_) (BAD 12 (by decide) (s3 hno hany g3) M2 f1 hM2 hf0)
          have := (lg_0 _).2.mp z
          rw [hsub] at this
          omega
        · obtain ⟨st0, st1⟩ := s4 hno hany g3
          have htT : t < T := by
            rcases Nat.lt_or_ge t T with y | y
            · exact y
            · exfalso
              have : T = t := by omega
              rcases hT3 with ⟨z1, z2, z3⟩ | ⟨z, -⟩
              · rw [this, st0] at z3
                exact z2 z3
              · omega
          refine m_t ((lg_0 _).2.mpr (by rw [hsub]; omega)) (m_bn (e' := lN (Fq rw hgt b U (t + 1))) ?_ ?_)
          · rw [lN_su (by omega), lN_a]
            show _ = lN (Fq rw hgt b U t + (stp0 rw hgt b t (Uq rw hgt b U t)).2.2)
            rw [st1]
          · exact GO htT _ _ M2 f1 hM2 hf0 (Or.inr ⟨by rw [e1]; exact hno, fun k hk => by rw [e2]; exact hfk k hk⟩) ⟨Nat.le_refl _, Nat.le_refl _⟩
