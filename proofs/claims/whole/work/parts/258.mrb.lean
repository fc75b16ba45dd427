-- the ledger goes back
set_option maxHeartbeats 400000 in
theorem add_m1 (x : Int32) : x + (-1) = x - 1 := (Int32.sub_eq_add_neg x 1).symm
set_option maxHeartbeats 400000 in
theorem sub1_lt {m : Nat} (h : m < 2 ^ 31) : nI m - 1 < nI m := by
  rcases Nat.eq_zero_or_pos m with e | e
  · rw [e]; decide
  · rw [show nI m - 1 = nI (m - 1) from nI_sb (a := m) (b := 1) (by omega)]
    exact (nI_ltI (a := m - 1) (b := m) (by omega) (by omega)).mpr (by omega)
def rb1 (s : Ld) : Ld := (chL s.1 (s.2.1.getLast?.getD e_C), s.2.1.dropLast, s.2.2.1, s.2.2.2)
def rbN : Nat → Ld → Ld
  | 0, s => s
  | n + 1, s => rbN n (rb1 s)
set_option maxHeartbeats 400000 in
theorem rb1_I {rw : Nat → List Int32} {nb N : Nat} {L H : List Cn} {c : Cn} {cu ch : Nat} (h : ldI rw nb N (L, H ++ [c], cu, ch)) : ldI rw nb N (chL L c, H, cu, ch) ∧ flU L c cu = cu := by
  obtain ⟨hnd, hpr, hpx, hv, hlh, hcu, hch⟩ := h
  replace hnd : L.Nodup := hnd
  replace hpr : prL L (H ++ [c]) := hpr
  obtain ⟨n1, n2, n3⟩ := chL_p hnd c
  have hpr' := prL_b hpr n2
  have hlen := (hpx H.length (chL L c) n1 (by
    show prL (chL L c) ((H ++ [c]).take H.length)
    rw [List.take_append_of_le_length (Nat.le_refl _), List.take_length]
    exact hpr')).1
  refine ⟨⟨n1, hpr', fun k L' hL hp => ?_, fun x hx => hv x (List.mem_append_left _ hx), ?_, hcu, hch⟩, ?_⟩
  · replace hp : prL L' (H.take k) := hp
    by_cases z : k ≤ H.length
    · refine hpx k L' hL ?_
      show prL L' ((H ++ [c]).take k)
      rw [List.take_append_of_le_length z]
      exact hp
    · refine hpx H.length L' hL ?_
      show prL L' ((H ++ [c]).take H.length)
      rw [List.take_append_of_le_length (Nat.le_refl _), List.take_length]
      rw [List.take_of_length_le (by omega)] at hp
      exact hp
  · replace hlh : (H ++ [c]).length ≤ ch := hlh
    rw [List.length_append] at hlh
    show H.length ≤ ch
    omega
  · unfold flU
    by_cases z : c ∈ L
    · rw [if_pos z]
    · rw [if_neg z]
      have e : chL L c = L ++ [c] := if_neg z
      rw [e, List.length_append] at hlen
      replace hlen : L.length + 1 ≤ cu := hlen
      exact ncp_k (by omega)
set_option maxHeartbeats 400000 in
theorem rb1_e (L H : List Cn) (c : Cn) (cu ch : Nat) : rb1 (L, H ++ [c], cu, ch) = (chL L c, H, cu, ch) := by
  unfold rb1
  show (chL L ((H ++ [c]).getLast?.getD e_C), (H ++ [c]).dropLast, cu, ch) = _
  rw [List.getLast?_concat, List.dropLast_concat]
  rfl
set_option maxHeartbeats 400000 in
theorem rbN_I {rw : Nat → List Int32} {nb N : Nat} : ∀ (n : Nat) (s : Ld), ldI rw nb N s → n ≤ s.2.1.length → ldI rw nb N (rbN n s) ∧ (rbN n s).2.1 = s.2.1.take (s.2.1.length - n) ∧ (rbN n s).2.2 = s.2.2
  | 0, s, h, _ => ⟨h, by show s.2.1 = _; rw [Nat.sub_zero, List.take_length], rfl⟩
  | n + 1, (L, H, cu, ch), h, hn => by
    replace hn : n + 1 ≤ H.length := hn
    obtain ⟨H0, c, hH⟩ := concat_of (L := H) (by omega)
    subst hH
    rw [List.length_append] at hn
    replace hn : n + 1 ≤ H0.length + 1 := hn
    show ldI rw nb N (rbN n (rb1 (L, H0 ++ [c], cu, ch))) ∧ (rbN n (rb1 (L, H0 ++ [c], cu, ch))).2.1 = (H0 ++ [c]).take ((H0 ++ [c]).length - (n + 1)) ∧ (rbN n (rb1 (L, H0 ++ [c], cu, ch))).2.2 = (cu, ch)
    rw [rb1_e]
    obtain ⟨a, b, d⟩ := rbN_I n (chL L c, H0, cu, ch) (rb1_I h).1 (by show n ≤ H0.length; omega)
    refine ⟨a, b.trans ?_, d⟩
    show H0.take (H0.length - n) = (H0 ++ [c]).take ((H0 ++ [c]).length - (n + 1))
    rw [List.length_append, show H0.length + [c].length - (n + 1) = H0.length - n from by show H0.length + 1 - (n + 1) = _; omega, List.take_append_of_le_length (by omega)]
set_option maxHeartbeats 2000000 in
theorem w_rb10 (fu MC MS : Nat) (cy : Nat → ClassId) (ad : Nat → Nat) (mi : Nat) {P0 : Nat → Prop} {q0 : Nat → Nat} {C0 : Nat → va_E} {nb : Nat} {par hgt tim : Nat → Nat} {bit : Nat → Int32} {bad : Nat → Bool} {rw : Nat → List Int32} {vl : Nat → Bool} {mk : Nat → Nat} {N m : Nat} (hN : 2 * N + 10 ≤ 60000) (hO : oK rw nb) (hp : ∀ k, 0 < k → par k < k) {κ σ : Nat} (hκ : κ ≤ MC ∧ σ ≤ MS) {Φ : Mm → Prop} : ∀ (n f : Nat) (s : Ld) (P : Nat → Prop) (q : Nat → Nat) (C : Nat → va_E) (M : Mm), n < f → s.2.1.length = m + n → RG P q C M → ldM P q C cy ad nb par hgt tim bit bad rw vl mk s → ldI rw nb N s → leF P0 q0 C0 P q C → (∀ M' P' q' C', RG P' q' C' M' → ldM P' q' C' cy ad nb par hgt tim bit bad rw vl mk (rbN n s) → leF P0 q0 C0 P' q' C' → Φ M') → xw_mLe_rollBack_10 fu MC MS cy ad mi Φ f κ σ M (q0 130) (nI m) (nI (m + n) - 1)
  | n, f + 1, s, P, q, C, M, hf, hl, hM, hS, hI, hF, hΦ => by
    show xv_mLe_rollBack_10 fu MC MS cy ad mi Φ (xw_mLe_rollBack_10 fu MC MS cy ad mi Φ f) κ σ M (q0 130) (nI m) (nI (m + n) - 1)
    unfold xv_mLe_rollBack_10
    have hb := hI.2.2.2.2.1
    have hb2 := hI.2.2.2.2.2.2
    rcases Nat.eq_zero_or_pos n with h0 | h0
    · subst h0
      refine m_t ?_ (hΦ M P q C hM hS hF)
      rw [Nat.add_zero]
      exact sub1_lt (by omega)
    · obtain ⟨n', rfl⟩ : ∃ k, n = k + 1 := ⟨n - 1, by omega⟩
      obtain ⟨L, H, cu, ch⟩ := s
      replace hl : H.length = m + (n' + 1) := hl
      replace hb : H.length ≤ ch := hb
      replace hb2 : ch ≤ 2 * N + 10 := hb2
      obtain ⟨H0, c, hH⟩ := concat_of (L := H) (by omega)
      subst hH
      rw [List.length_append] at hl hb
      replace hl : H0.length + 1 = m + (n' + 1) := hl
      replace hb : H0.length + 1 ≤ ch := hb
      obtain ⟨sl, hS1⟩ := hS
      obtain ⟨⟨hq, hP, h223, had⟩, hB, h130, hLu, hLh, hvL, hvH, hnd, hsi, hsn⟩ := id hS1
      have hc : cVd rw nb c := hvH c (List.mem_append_right _ (List.mem_singleton.mpr rfl))
      obtain ⟨pc, cc⟩ := hB.2 c hc
      have hcb := ck_b (rw := rw) c
      rw [show nI (m + (n' + 1)) - 1 = nI (m + n') from nI_sb (a := m + (n' + 1)) (b := 1) (by omega)]
      refine m_f (fun z => absurd ((nI_ltI (a := m + n') (b := m) (by omega) (by omega)).mp z) (by omega)) ?_
      rw [← hF.2.2.1 130 (by decide) (by decide)]
      obtain ⟨-, -, ee, mm, h132⟩ := al_s hLh
      refine m_gr (g_at hM (hP 130 (by decide)) h130) rfl (m_ck (g_at hM (hP 132 (by decide)) h132) ⟨0, 0, hκ, ?_⟩)
      have hLh' := hLh
      replace hLh' : alR P q C cy 132 221 ((H0 ++ [c]).map (ck rw)) ch := hLh'
      rw [map_ap] at hLh'
      rw [show m + n' = (H0.map (ck rw)).length from by rw [List.length_map]; omega]
      refine w_Rem fu 0 0 cy ad mi hM hq hLh' (by decide) (by omega) (fun M1 C1 hM1 hC1 hL1 => ⟨_, rfl, ?_⟩)
      have hB1 := bkR_c (C' := C1) hB (fun k hk => hC1 k (by omega) (by omega))
      have h130a : C1 130 = .inr (5, [.ref (q 131), .ref (q 132)]) := (hC1 130 (by decide) (by decide)).trans h130
      have hS2 : ldS P q C1 cy ad nb par hgt tim bit bad rw vl mk sl L H0 cu ch := ⟨⟨hq, hP, h223, had⟩, hB1, h130a, alR_c hLu (hC1 _ (by decide) (by decide)) (hC1 _ (by decide) (by decide)), hL1, hvL, fun x hx => hvH x (List.mem_append_left _ hx), hnd, hsi, hsn⟩
      obtain ⟨i1, i2⟩ := rb1_I hI
      have hcu : cu ≤ 2 * N + 10 := hI.2.2.2.2.2.1
      refine m_ck (g_at hM1 pc ((hC1 _ (by omega) (by omega)).trans cc)) (m_ck (g_at hM1 (hP 130 (by decide)) h130a) ⟨0, 0, hκ, w_change fu 0 0 cy ad mi hM1 hS2 hO hp hc (by omega) (by rw [i2]; omega) (fun M2 P2 q2 C2 sl2 hM2 hS3 hF3 => ?_)⟩)
      rw [i2] at hS3
      have hF1 : leF P q C P q C1 := ⟨fun _ h => h, fun _ h => Or.inl h, fun _ _ _ => rfl, fun j _ a b e f => hC1 j b f⟩
      have hF4 := leF_t hF (leF_t hF1 hF3)
      rw [List.length_map, show H0.length = m + n' from by omega]
      refine m_bn (e' := nI (m + n') - 1) (add_m1 _) ?_
      have ih := w_rb10 fu MC MS cy ad mi (N := N) (m := m) hN hO hp hκ (Φ := Φ) n' f (chL L c, H0, cu, ch) P2 q2 C2 M2 (by omega) (by show H0.length = _; omega) hM2 ⟨sl2, hS3⟩ i1 hF4 (fun M' P' q' C' b1 b2 b3 => hΦ M' P' q' C' b1 (by show ldM _ _ _ _ _ _ _ _ _ _ _ _ _ _ (rbN n' (rb1 _)); rw [rb1_e]; exact b2) b3)
      rw [hF.2.2.1 130 (by decide) (by decide)]
      exact ih
set_option maxHeartbeats 400000 in
theorem w_roll (fu MC MS : Nat) (cy : Nat → ClassId) (ad : Nat → Nat) (mi : Nat) {P : Nat → Prop} {q : Nat → Nat} {C : Nat → va_E} {M : Mm} (hM : RG P q C M) {nb : Nat} {par hgt tim : Nat → Nat} {bit : Nat → Int32} {bad : Nat → Bool} {rw : Nat → List Int32} {vl : Nat → Bool} {mk : Nat → Nat} {s : Ld} {N m : Nat} (hS : ldM P q C cy ad nb par hgt tim bit bad rw vl mk s) (hI : ldI rw nb N s) (hN : 2 * N + 10 ≤ 60000) (hNf : 2 * N + 10 < fu) (hO : oK rw nb) (hp : ∀ k, 0 < k → par k < k) (hm : m ≤ s.2.1.length) {κ σ : Nat} (hκ : κ ≤ MC ∧ σ ≤ MS) {Φ : Mm → Prop} (hΦ : ∀ M' P' q' C', RG P' q' C' M' → ldM P' q' C' cy ad nb par hgt tim bit bad rw vl mk (rbN (s.2.1.length - m) s) → leF P q C P' q' C' → Φ M') : xw_mLe_rollBack fu MC MS cy ad mi Φ κ σ M (q 130) (nI m) := by
  obtain ⟨sl, hS1⟩ := id hS
  obtain ⟨⟨hq, hP, h223, had⟩, hB, h130, hLu, hLh, -⟩ := id hS1
  obtain ⟨-, -, ee, mm, h132⟩ := al_s hLh
  have hb := hI.2.2.2.2.1
  have hb2 := hI.2.2.2.2.2.2
  unfold xw_mLe_rollBack
  refine m_gr (g_at hM (hP 130 (by decide)) h130) rfl (m_ck (g_at hM (hP 132 (by decide)) h132) ⟨0, 0, hκ, w_Size fu 0 0 cy ad mi hM hLh ?_⟩)
  rw [List.length_map]
  refine m_bn (e' := nI (m + (s.2.1.length - m)) - 1) (by rw [show m + (s.2.1.length - m) = s.2.1.length from by omega]) ?_
  exact w_rb10 fu MC MS cy ad mi hN hO hp hκ (s.2.1.length - m) fu s P q C M (by omega) (by omega) hM hS hI leF_r hΦ
set_option maxHeartbeats 400000 in
theorem w_mark (fu MC MS : Nat) (cy : Nat → ClassId) (ad : Nat → Nat) (mi : Nat) {P : Nat → Prop} {q : Nat → Nat} {C : Nat → va_E} {M : Mm} (hM : RG P q C M) {nb : Nat} {par hgt tim : Nat → Nat} {bit : Nat → Int32} {bad : Nat → Bool} {rw : Nat → List Int32} {vl : Nat → Bool} {mk : Nat → Nat} {s : Ld} (hS : ldM P q C cy ad nb par hgt tim bit bad rw vl mk s) {κ σ : Nat} (hκ : κ ≤ MC ∧ σ ≤ MS) {Φ : Int32 → Mm → Prop} (hΦ : Φ (nI s.2.1.length) M) : xw_mLe_mark fu MC MS cy ad mi Φ κ σ M (q 130) := by
  obtain ⟨sl, hS1⟩ := id hS
  obtain ⟨⟨hq, hP, h223, had⟩, hB, h130, hLu, hLh, -⟩ := id hS1
  obtain ⟨-, -, ee, mm, h132⟩ := al_s hLh
  unfold xw_mLe_mark
  refine m_gr (g_at hM (hP 130 (by decide)) h130) rfl (m_ck (g_at hM (hP 132 (by decide)) h132) ⟨0, 0, hκ, w_Size fu 0 0 cy ad mi hM hLh ?_⟩)
  rw [List.length_map]
  exact hΦ
