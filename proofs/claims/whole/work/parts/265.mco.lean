-- connect
set_option maxHeartbeats 2000000 in
theorem w_conn (fu MC MS : Nat) (cy : Nat → ClassId) (ad : Nat → Nat) (mi : Nat) {P : Nat → Prop} {q : Nat → Nat} {C : Nat → va_E} {M : Mm} {nb : Nat} {par hgt tim : Nat → Nat} {bit : Nat → Int32} {bad : Nat → Bool} {rw : Nat → List Int32} {vl : Nat → Bool} {mk : Nat → Nat} {N : Nat} (hN : 2 * N + 10 ≤ 60000) (hNf : 2 * N + 4000 ≤ fu) (hO : oK rw nb) (hp : ∀ k, 0 < k → par k < k) (hA : bkA rw hgt tim nb) (hh : ∀ k, k < nb → hgt k ≤ 60) {rl tk ck' : Int32} {tp b : Nat} (htp : tp < nb) (hb0 : 0 < b) (hb : b < nb) {s : Ld} (hI : ldI rw nb N s) {U : List Cn} (hU : ∀ x, x ∈ s.1 ↔ x ∈ U) (hN2 : s.2.1.length + nIn (TLb rw b) + 2 * nOut (TLb rw b) ≤ N) {T w : Nat} (hT : cnT rw hgt b U T w) (hM : RG P q C M) (hS : ldM P q C cy ad nb par hgt tim bit bad rw vl mk s) (hK : C 103 = kpO q rl tp tk ck') (hl : lyX C q cy) {f : Nat → Option Nat} (h134 : C 134 = spA cy f) {κ σ : Nat} (hκ : κ + grS s (Sq rw b s T) ≤ MC ∧ σ + 4 * grS s (Sq rw b s T) ≤ MS) {Φ : Int32 → Mm → Prop} (hΦ : ∀ M' P' q' C', cnP P q C cy ad nb par hgt tim bit bad rw vl (mkC rw mk b T s) rl tk tp b s U T P' q' C' M' → Φ (nI w) M') : xw_mK_connect fu MC MS cy ad mi Φ κ σ M (q 103) (q (kB b)) := by
  obtain ⟨sl, hS1⟩ := id hS
  obtain ⟨⟨hq, hP, -⟩, hB, h130, -⟩ := id hS1
  obtain ⟨⟨p0, p1, -⟩, c0, c1, -⟩ := hB.1 b hb
  have hbk := hA.2 b hb0 hb
  have h3000 := hbk.2.1
  have hnn := bk_n hbk
  have k256 : 256 ≤ kB b := by unfold kB; omega
  have hTl := hT.1
  have m103 := g_at hM (hP 103 (by decide)) hK
  have mb := g_at hM p0 c0
  have mr := g_at hM p1 c1
  unfold xw_mK_connect
  refine m_gr m103 rfl (m_gr mb rfl (m_gr mb rfl (m_ln mr ?_)))
  refine w_Read fu (by omega) hM hq hP hl p1 (by omega) c1 (by omega) (E := (rw b).length) (Nat.le_refl _) h3000 _ (fun M1 C1 hn _ _ _ => ?_) (fun TL M1 C1 u3 u4 u5 u6 u7 u8 u9 u10 u11 he hM1 hl1 hF1 => ?_)
  · rw [hbk.1] at hn
    exact absurd hn (by simp)
  have e : TL = TLb rw b := by
    rw [hbk.1] at he
    exact (Option.some.inj he).symm
  subst e
  have hK1 := (hF1 103 (by decide)).trans hK
  refine g_pt hM1 hq (hP 103 (by decide)) hK1 (show 12 < 13 by decide) (fun M2 hM2 => ?_)
  have n2 : ∀ {j}, j ≠ 103 → va_up C1 103 (kpO q rl tp tk (nI 0)) j = C1 j := fun h => up_n h
  exact w_cn27 fu MC MS cy ad mi hN (Nat.le_trans (Nat.add_le_add_left (by decide) _) hNf) hO hp hA hh htp hb0 hb hI hU hN2 hT hΦ T 0 fu κ σ P q (va_up C1 103 (kpO q rl tp tk (nI 0))) M2 (Nat.zero_add _) (by omega) ⟨hM2, ldM_c hS (fun k hk => (n2 (by omega)).trans (hF1 k (by omega))), up_e, ⟨u3, u4, u5, u6, u7, u8, u9, u10, u11, lyR_c hl1 (fun k k1 k2 => n2 (by omega))⟩, ⟨f, (n2 (by decide)).trans ((hF1 134 (by decide)).trans h134), fun t k _ h2 => absurd h2 (Nat.not_lt_zero _)⟩, coF_r (fun j a d e _ _ _ _ _ => (n2 d).trans (hF1 j e))⟩ hκ
