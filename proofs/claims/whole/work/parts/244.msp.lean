-- blocks in the memory: a block's flags change; spoil
set_option maxHeartbeats 1000000 in
theorem bkR_s {P : Nat → Prop} {q : Nat → Nat} {C : Nat → va_E} {cy : Nat → ClassId} {nb : Nat} {par hgt tim : Nat → Nat} {bit : Nat → Int32} {bad : Nat → Bool} {rw : Nat → List Int32} {vl : Nat → Bool} {mk : Nat → Nat} {sl : Cn → Int32} (hB : bkR P q C cy nb par hgt tim bit bad rw vl mk sl) (hO : ∀ c, cVd rw nb c → ckO rw c < 504) {x : Nat} {bad' vl' : Nat → Bool} {mk' : Nat → Nat} (he : ∀ b, b ≠ x → bad' b = bad b ∧ vl' b = vl b ∧ mk' b = mk b) : bkR P q (va_up C (kB x) (blO q par hgt tim bit x (bad' x) (vl' x) (mk' x))) cy nb par hgt tim bit bad' rw vl' mk' sl := by
  refine ⟨fun b hb => ?_, fun c hc => ?_⟩
  · obtain ⟨p, c0, c1, ⟨g, c2, c2'⟩, ⟨n, g3, c3, c3'⟩, c4⟩ := hB.1 b hb
    have n1 : kB b + 1 ≠ kB x := by unfold kB; omega
    have n2 : kB b + 2 ≠ kB x := by unfold kB; omega
    have n3 : kB b + 3 ≠ kB x := by unfold kB; omega
    have n4 : kB b + 4 ≠ kB x := by unfold kB; omega
    refine ⟨p, ?_, (up_n n1).trans c1, ⟨g, (up_n n2).trans c2, c2'⟩, ⟨n, g3, (up_n n3).trans c3, c3'⟩, fun h0 => ?_⟩
    · by_cases e : b = x
      · subst e; exact up_e
      · have n0 : kB b ≠ kB x := by unfold kB; omega
        obtain ⟨e1, e2, e3⟩ := he b e
        rw [up_n n0, e1, e2, e3]; exact c0
    · obtain ⟨f, f1, f2⟩ := c4 h0
      exact ⟨f, (up_n n4).trans f1, f2⟩
  · obtain ⟨p, e⟩ := hB.2 c hc
    have := hO c hc
    have n0 : ck rw c ≠ kB x := by unfold ck kB; omega
    exact ⟨p, (up_n n0).trans e⟩
set_option maxHeartbeats 1000000 in
theorem w_spo7 (fu MC MS : Nat) (cy : Nat → ClassId) (ad : Nat → Nat) (mi : Nat) {P : Nat → Prop} {q : Nat → Nat} (hq : IJ P q) {nb : Nat} {par hgt tim : Nat → Nat} {bit : Nat → Int32} {rw : Nat → List Int32} {vl : Nat → Bool} {mk : Nat → Nat} {sl : Cn → Int32} (hO : ∀ c, cVd rw nb c → ckO rw c < 504) (hnb : nb ≤ 200) (hp : ∀ k, 0 < k → par k < k) {rl tk ch : Int32} {tp cap : Nat} (h103 : P 103) {κ σ : Nat} (hκ : κ ≤ MC ∧ σ ≤ MS) {C0 : Nat → va_E} (hK : C0 103 = kpO q rl tp tk ch) (hL : alR P q C0 cy 133 222 (blL nb) cap) {Φ : Mm → Prop} {bF : Nat → Bool} (hΦ : ∀ M' C', RG P q C' M' → (∀ j, (∀ b, b < nb → j ≠ kB b) → C' j = C0 j) → bkR P q C' cy nb par hgt tim bit bF rw vl mk sl → Φ M') : ∀ r i m (bad : Nat → Bool) (C : Nat → va_E) (M : Mm), 0 < i → i + r = nb → r < m → RG P q C M → (∀ j, (∀ b, b < nb → j ≠ kB b) → C j = C0 j) → bkR P q C cy nb par hgt tim bit bad rw vl mk sl → spL par r i bad = bF → xw_mK_spoil_7 fu MC MS cy ad mi Φ m κ σ M (q 103) (nI i)
  | r, i, m + 1, bad, C, M, hi0, hi, hm, hM, hC, hB, hF => by
    show xv_mK_spoil_7 fu MC MS cy ad mi Φ (xw_mK_spoil_7 fu MC MS cy ad mi Φ m) κ σ M (q 103) (nI i)
    unfold xv_mK_spoil_7
    have hlow : ∀ j, j < 256 → C j = C0 j := fun j hj => hC j (fun b _ => by unfold kB; omega)
    have hL' : alR P q C cy 133 222 (blL nb) cap := by
      unfold alR
      rw [hlow 133 (by decide), hlow 222 (by decide)]
      exact hL
    have m103 := g_at hM h103 ((hlow 103 (by decide)).trans hK)
    obtain ⟨-, -, e, mc, h133⟩ := al_s hL'
    have m133 := g_at hM hL.1 h133
    refine m_gr m103 rfl (m_ck m133 ⟨0, 0, hκ, w_Size fu 0 0 cy ad mi hM hL' ?_⟩)
    rw [blL_l]
    match r, hi, hm, hF with
    | 0, hi, hm, hF =>
      have e : i = nb := by omega
      subst e
      replace hF : bad = bF := hF
      subst hF
      exact m_t ((nI_leI (a := i) (b := i) (by omega) (by omega)).mpr (Nat.le_refl _)) (hΦ M C hM hC hB)
    | r + 1, hi, hm, hF =>
      replace hF : spL par r (i + 1) (if bad (par i) = true then upB bad i true else bad) = bF := hF
      refine m_f (fun x => absurd ((nI_leI (a := nb) (b := i) (by omega) (by omega)).mp x) (by omega)) (m_gr m103 rfl (m_ck m133 ⟨0, 0, hκ, w_Get fu 0 0 cy ad mi hM hL' (i := i) (by rw [blL_l]; omega) ⟨Nat.le_refl _, Nat.le_refl _⟩ ?_⟩))
      rw [blL_g (by omega)]
      have hpi := hp i hi0
      obtain ⟨⟨p0, -⟩, c0, -⟩ := hB.1 i (by omega)
      obtain ⟨⟨p0', -⟩, c0', -⟩ := hB.1 (par i) (by omega)
      have m0 := g_at hM p0 c0
      have m0' := g_at hM p0' c0'
      have i0 : i ≠ 0 := by omega
      refine ⟨_, rfl, m_ck m0 (m_grp m0 (x := q (kB (par i))) (congrArg some (if_neg i0)) (m_grp m0 (x := q (kB (par i))) (congrArg some (if_neg i0)) (m_gi m0' rfl ?_)))⟩
      unfold xv_mK_spoil_52 bB
      by_cases g : bad (par i) = true
      · rw [if_pos g] at hF ⊢
        refine m_f (by decide) (g_pt hM hq p0 c0 (by show 9 < 12; decide) (fun M' hM' => m_bn (e' := nI (i + 1)) (nI_add i 1) ?_))
        refine w_spo7 fu MC MS cy ad mi hq hO hnb hp h103 hκ hK hL hΦ r (i + 1) m (upB bad i true) _ M' (by omega) (by omega) (by omega) hM' (fun j hj => (up_n (hj i (by omega))).trans (hC j hj)) ?_ hF
        have hb := bkR_s (x := i) (bad' := upB bad i true) (vl' := vl) (mk' := mk) hB hO (fun b hb => ⟨if_neg hb, rfl, rfl⟩)
        rw [show upB bad i true i = true from if_pos rfl] at hb
        exact hb
      · rw [if_neg g] at hF ⊢
        exact m_t rfl (m_bn (e' := nI (i + 1)) (nI_add i 1) (w_spo7 fu MC MS cy ad mi hq hO hnb hp h103 hκ hK hL hΦ r (i + 1) m bad C M (by omega) (by omega) (by omega) hM hC hB hF))
set_option maxHeartbeats 1000000 in
theorem w_spoil (fu MC MS : Nat) (cy : Nat → ClassId) (ad : Nat → Nat) (mi : Nat) (hfu : 300 ≤ fu) {P : Nat → Prop} {q : Nat → Nat} {C : Nat → va_E} {M : Mm} (hM : RG P q C M) (hq : IJ P q) {nb : Nat} {par hgt tim : Nat → Nat} {bit : Nat → Int32} {bad : Nat → Bool} {rw : Nat → List Int32} {vl : Nat → Bool} {mk : Nat → Nat} {sl : Cn → Int32} (hB : bkR P q C cy nb par hgt tim bit bad rw vl mk sl) (hO : ∀ c, cVd rw nb c → ckO rw c < 504) (hnb : 1 ≤ nb ∧ nb ≤ 200) (hp : ∀ k, 0 < k → par k < k) {rl tk ch : Int32} {tp cap : Nat} (h103 : P 103) {κ σ : Nat} (hκ : κ ≤ MC ∧ σ ≤ MS) (hK : C 103 = kpO q rl tp tk ch) (hL : alR P q C cy 133 222 (blL nb) cap) {x : Nat} (hx : x < nb) {Φ : Mm → Prop} (hΦ : ∀ M' C', RG P q C' M' → (∀ j, (∀ b, b < nb → j ≠ kB b) → C' j = C j) → bkR P q C' cy nb par hgt tim bit (spL par (nb - 1) 1 (upB bad x true)) rw vl mk sl → Φ M') : xw_mK_spoil fu MC MS cy ad mi Φ κ σ M (q 103) (q (kB x)) := by
  obtain ⟨⟨p0, -⟩, c0, -⟩ := hB.1 x hx
  unfold xw_mK_spoil
  refine g_pt hM hq p0 c0 (by show 9 < 12; decide) (fun M' hM' => ?_)
  have hb := bkR_s (x := x) (bad' := upB bad x true) (vl' := vl) (mk' := mk) hB hO (fun b hb => ⟨if_neg hb, rfl, rfl⟩)
  rw [show upB bad x true x = true from if_pos rfl] at hb
  exact w_spo7 fu MC MS cy ad mi hq hO hnb.2 hp h103 hκ hK hL hΦ (nb - 1) 1 fu (upB bad x true) _ M' (by decide) (by omega) (by omega) hM' (fun j hj => up_n (hj x hx)) hb rfl
