-- the law's step, all cases
set_option maxHeartbeats 2000000 in
set_option maxRecDepth 100000 in
theorem lw_st {F : Type} [Lean.Grind.Field F] [DecidableEq F] {c : Int → F} (hc : cH pP c) {sgB : Nat → List Int32 → List Int32 → Bool} (hsg : ∀ e K G, sgB e K G = true ↔ sgO c e K G) (fu : Nat) (hfu : 2 ^ 257 ≤ fu) (cy : Nat → ClassId) (ad : Nat → Nat) (mi L : Nat) (xs : Nat → Int32) {k : Nat} (hL : L ≤ 3072) (hk3 : 6 * k ≤ 3072) {k_23 : Nat → Nat → Mm → Nat → Nat → Nat → Int32 → Prop} {κ σ : Nat} {P : Nat → Prop} {q : Nat → Nat} {C : Nat → va_E} {M : Mm} {S : Ab} {R : List Int32} {vl : Nat → Bool} {mk : Nat → Nat} {s : Ld} {cb : Nat} (h : lwS c sgB P q C M cy ad S R vl mk s cb) (hn57 : 6 * k + 6 ≤ L → S.1 ≤ 57) (hs17 : sBr S.2.2.2.2.2.2.1 S.1 + R.length ≤ 17000) (room2 : κ + R.length + 20000 ≤ 601024 ∧ σ + 10 * R.length + 80000 ≤ 7293034) (hN : 6 * k + 6 ≤ L → ∀ κ' σ' M' P' q' C' S' R' vl' mk' s' cb', lwS c sgB P' q' C' M' cy ad S' R' vl' mk' s' cb' → lwR S R s cb κ σ S' R' s' cb' κ' σ' → q' 103 = q 103 → q' 216 = q 216 → q' 136 = q 136 → k_23 κ' σ' M' (q 103) (q 216) (q 136) (nI (6 * k + 6))) : xv_mlaw_23 fu cy ad mi L xs k_23 κ σ M (q 103) (q 216) (q 136) (nI (6 * k)) := by
  have hx : (nI L - (6 : Int32)).toInt = (L : Int) - 6 := by
    rw [Int32.toInt_sub, i_nI (by omega), show Int32.toInt 6 = 6 from rfl, Int.bmod_eq_of_le (by omega) (by omega)]
  have hy : (nI (6 * k)).toInt = ((6 * k : Nat) : Int) := i_nI (by omega)
  unfold xv_mlaw_23
  refine m_bn (e' := nI L) rfl ?_
  by_cases hk6 : 6 * k + 6 ≤ L
  case neg => exact m_t (Int32.lt_iff_toInt_lt.mpr (by rw [hx, hy]; omega)) trivial
  replace hN := hN hk6
  have hL : L < 2 ^ 30 := by omega
  have room : κ + 1 ≤ 601024 ∧ σ + 6 ≤ 7293034 := by omega
  refine m_f (fun g => by
    have := Int32.lt_iff_toInt_lt.mp g
    rw [hx, hy] at this
    omega) ⟨inb_nI (by omega) (by omega), m_b (m_b ?_)⟩
  refine m_if (fun _ => lw_0 hc hsg fu hfu cy ad mi L xs hk6 hL h room hN) (fun _ => m_if (fun _ => lw_1 hc hsg fu hfu cy ad mi L xs hk6 hL h room hN) (fun _ => m_if (fun _ => lw_2 hc hsg fu hfu cy ad mi L xs hk6 hL h room hN (hn57 hk6) hs17 room2) (fun _ => m_if (fun _ => lw_3 hc hsg fu hfu cy ad mi L xs hk6 hL h room hN) (fun _ => m_if (fun _ => lw_4 hc hsg fu hfu cy ad mi L xs hk6 hL h room hN) (fun _ => m_if (fun _ => lw_5 hc hsg fu hfu cy ad mi L xs hk6 hL h room hN) (fun _ => m_if (fun _ => lw_6 hc hsg fu hfu cy ad mi L xs hk6 hL h room hN) (fun _ => m_if (fun _ => lw_7 hc hsg fu hfu cy ad mi L xs hk6 hL h room hN) (fun _ => m_if (fun _ => lw_8 hc hsg fu hfu cy ad mi L xs hk6 hL h room hN) (fun _ => m_if (fun _ => lw_9 hc hsg fu hfu cy ad mi L xs hk6 hL h room hN) (fun _ => ?_))))))))))
  exact fin662 (hN κ σ M P q C S R vl mk s cb h (lwR_0 (by omega) (by omega) (by omega)) rfl rfl rfl)
set_option maxHeartbeats 2000000 in
/-- the law's loop -/
theorem lw_lp {F : Type} [Lean.Grind.Field F] [DecidableEq F] {c : Int → F} (hc : cH pP c) {sgB : Nat → List Int32 → List Int32 → Bool} (hsg : ∀ e K G, sgB e K G = true ↔ sgO c e K G) (fu : Nat) (hfu : 2 ^ 257 ≤ fu) (cy : Nat → ClassId) (ad : Nat → Nat) (mi L : Nat) (xs : Nat → Int32) (hL : L ≤ 3072) {K0 S0 : Nat} (hK0 : K0 ≤ 550000 ∧ S0 ≤ 6900000) : ∀ (n k κ σ : Nat) (M : Mm) (P : Nat → Prop) (q : Nat → Nat) (C : Nat → va_E) (S : Ab) (R : List Int32) (vl : Nat → Bool) (mk : Nat → Nat) (s : Ld) (cb : Nat), lwS c sgB P q C M cy ad S R vl mk s cb → 512 < n + k → k ≤ 512 → 9 * (S.1 - 1) + (R.length + 19) / 20 ≤ k → sBr S.2.2.2.2.2.2.1 S.1 + R.length ≤ 20 * k → κ + R.length ≤ K0 + 27 * k + (cb + s.2.2.1 + s.2.2.2) → σ + 10 * R.length ≤ S0 + 400 * k + 4 * (cb + s.2.2.1 + s.2.2.2) → xw_mlaw_23 fu cy ad mi L xs n κ σ M (q 103) (q 216) (q 136) (nI (6 * k))
  | 0, k, κ, σ, M, P, q, C, S, R, vl, mq, s, cb, h, h1, h2, h3, h4, h5, h6 => by omega
  | n + 1, k, κ, σ, M, P, q, C, S, R, vl, mq, s, cb, h, h1, h2, h3, h4, h5, h6 => by
    have hp := h.2.1
    have hcu := hp.2.2.1.1.2.2.2.2.2
    have hcb' := hp.2.2.2.2
    show xv_mlaw_23 fu cy ad mi L xs (xw_mlaw_23 fu cy ad mi L xs n) κ σ M (q 103) (q 216) (q 136) (nI (6 * k))
    refine lw_st hc hsg fu hfu cy ad mi L xs hL (by omega) h (fun _ => by omega) (by omega) ⟨by omega, by omega⟩ (fun hk6 κ' σ' M' P' q' C' S' R' vl' mk' s' cb' hS hR e1 e2 e3 => ?_)
    obtain ⟨fed, r1, r2, r3, r4, r5, r6, r7⟩ := hR
    unfold grS at r1 r2
    unfold leC at r4
    have := lw_lp hc hsg fu hfu cy ad mi L xs hL hK0 n (k + 1) κ' σ' M' P' q' C' S' R' vl' mk' s' cb' hS (by omega) (by omega) (by omega) (by omega) (by omega) (by omega)
    rw [e1, e2, e3] at this
    exact this
