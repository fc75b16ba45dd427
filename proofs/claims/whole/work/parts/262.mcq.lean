-- a block is connected: the states
set_option maxHeartbeats 2000000 in
theorem w_exch (fu MC MS : Nat) (cy : Nat → ClassId) (ad : Nat → Nat) (mi : Nat) (hfu : 400 ≤ fu) {P : Nat → Prop} {q : Nat → Nat} {C : Nat → va_E} {nb : Nat} {par hgt tim : Nat → Nat} {bit : Nat → Int32} {bad : Nat → Bool} {rw : Nat → List Int32} {vl : Nat → Bool} {mk : Nat → Nat} (hP : ∀ k, k < 138 ∧ k ≠ 29 ∧ k ≠ 137 ∧ k ≠ 135 → P k) {rl tk ck' : Int32} {tp : Nat} (hK : C 103 = kpO q rl tp tk ck') {b t : Nat} (hb : b < nb) (hbk : bkS rw hgt tim b) (ht : t < (TLb rw b).length) {u3 u4 u5 u6 u7 u8 u9 u10 u11 : Nat → Int32} (hl : lyR C q cy (.ref (q (kB b + 1))) (rw b).length (TLb rw b) u3 u4 u5 u6 u7 u8 u9 u10 u11) {f : Nat → Option Nat} (h134 : C 134 = spA cy f) {N : Nat} (hN : 2 * N + 10 ≤ 60000) (hNf : 2 * N + 200 ≤ fu) (hO : oK rw nb) (hp : ∀ k, 0 < k → par k < k) (hr0 : TLb rw 0 = []) {M : Mm} (hM : RG P q C M) {s : Ld} (hS : ldM P q C cy ad nb par hgt tim bit bad rw vl mk s) (hI : ldI rw nb N s) (h0 : t = 0 ∨ (none ∉ spn rw b t s.1 ∧ ∀ k, k < (txO rw b t).2.1.length → f (nIn ((TLb rw b).take t) + k) = some (q (ck rw ((spC rw b t s.1).getD k e_C))))) (hN2 : s.2.1.length + (txO rw b t).2.1.length + 2 * (txO rw b t).2.2.2.1.length ≤ N) {κ σ : Nat} (hκ : κ + grS s (exS rw b t s) ≤ MC ∧ σ + 4 * grS s (exS rw b t s) ≤ MS) {Φ : Mm → Prop} (hΦ : ∀ M' P' q' C', RG P' q' C' M' → ldM P' q' C' cy ad nb par hgt tim bit bad rw vl mk (exS rw b t s) → leF P q C P' q' C' → Φ M') : xw_mK_exchange fu MC MS cy ad mi Φ κ σ M (q 103) (q (kB b)) (nI t) := by
  have hnn := bk_n hbk
  have h3000 := hbk.2.1
  obtain ⟨⟨b0, a1, a2, a3, a4⟩, hL⟩ := id hl
  obtain ⟨⟨-, -, x3, x4, x5, x6⟩, -⟩ := laH_x (TLb rw b) 0 0 0 hL t ht
  rw [Nat.zero_add, Nat.zero_add] at x3 x5
  have hi := nIn_tk (TLb rw b) t ht
  have ho := nOut_tk (TLb rw b) t ht
  have hm1 := nOut_m2 (TLb rw b) (t := t + 1) (t' := (TLb rw b).length) (by omega)
  have hm2 := nIn_m2 (TLb rw b) (t := t + 1) (t' := (TLb rw b).length) (by omega)
  rw [List.take_length] at hm1 hm2
  have hi' : nIn ((TLb rw b).take (t + 1)) = nIn ((TLb rw b).take t) + (txO rw b t).2.1.length := hi
  have ho' : nOut ((TLb rw b).take (t + 1)) = nOut ((TLb rw b).take t) + (txO rw b t).2.2.2.1.length := ho
  have hv : ∀ j, j < (txO rw b t).2.2.2.1.length → cVd rw nb (b, t, j) := fun j h => ⟨⟨hb, ht⟩, h⟩
  have P48 : ∀ (s1 : Ld), ldI rw nb N s1 → s1.2.1.length + 2 * (txO rw b t).2.2.2.1.length ≤ N → exS rw b t s = ptN rw b t s1 (txO rw b t).2.2.2.1.length → ∀ κ σ M' P' q' C', RG P' q' C' M' → ldM P' q' C' cy ad nb par hgt tim bit bad rw vl mk s1 → leF P q C P' q' C' → κ + grS s1 (exS rw b t s) ≤ MC ∧ σ + 4 * grS s1 (exS rw b t s) ≤ MS → xv_mK_exchange_48 fu MC MS cy ad mi Φ κ σ M' (q 103) (q (kB b)) (nI t) := by
    intro s1 hI1 hN1 he κ σ M' P' q' C' hM' hS' hF' hκ'
    unfold xv_mK_exchange_48
    refine m_gr (leF_at hF' hM' (hP 103 (by decide)) (by decide) hK) rfl (m_gr (leF_at hF' hM' (hP 120 (by decide)) (by decide) b0) rfl (m_ai (leF_at hF' hM' (hP 123 (by decide)) (by decide) a3) (inb_nI (by omega) (by decide)) ?_))
    rw [nI_clamp (n := t) (by omega), x5]
    rw [he] at hκ' hΦ
    exact w_ex58 fu MC MS cy ad mi hP hK hb hbk ht hl h134 hN hNf hO hp hr0 hI1 hN1 hΦ (txO rw b t).2.2.2.1.length 0 fu κ σ P' q' C' M' (Nat.zero_add _) (by omega) hM' hS' hF' hκ'
  unfold xw_mK_exchange
  by_cases g : t = 0
  · refine m_t ?_ (P48 s hI (by omega) (by unfold exS; rw [if_pos g]) κ σ M P q C hM hS leF_r hκ)
    rw [g]
    decide
  · obtain ⟨hno, hf⟩ := h0.resolve_left g
    obtain ⟨n1, n2⟩ := spC_nd (bk_t hbk ht).2.2 hno
    have hle := spC_len (rw := rw) (b := b) (t := t) (U := s.1)
    obtain ⟨k1, k2, k3, k4⟩ := fpK_I hI n1 n2 (txO rw b t).2.1.length (by omega) (by omega)
    have hl1 : (fpK s (spC rw b t s.1) (txO rw b t).2.1.length).2.1.length ≤ s.2.1.length + (txO rw b t).2.1.length := by
      rw [k4, List.length_append, List.length_take]
      omega
    have he : exS rw b t s = ptN rw b t (fpK s (spC rw b t s.1) (txO rw b t).2.1.length) (txO rw b t).2.2.2.1.length := by
      unfold exS
      rw [if_neg g]
    refine m_f (fun z => g ?_) (m_gr (g_at hM (hP 103 (by decide)) hK) rfl (m_gr (g_at hM (hP 120 (by decide)) b0) rfl (m_ai (g_at hM (hP 122 (by decide)) a2) (inb_nI (by omega) (by decide)) ?_)))
    · have := (nI_leI (a := t) (b := 0) (by omega) (by omega)).mp z
      omega
    rw [nI_clamp (n := t) (by omega), x3]
    have hsF : leC (fpK s (spC rw b t s.1) (spC rw b t s.1).length) (exS rw b t s) := by
      rw [hle, he]
      exact ptN_m k1 hv (by omega) (txO rw b t).2.2.2.1.length 0 (Nat.zero_add _)
    exact w_ex14 fu MC MS cy ad mi hP hK hb hbk ht hl h134 hN hNf hO hp hr0 hI n1 n2 hle hf (by omega) (sF := exS rw b t s) hsF (fun κ σ M' P' q' C' c1 c2 c3 c4 => by
      rw [hle] at c2 c4
      exact P48 _ k1 (by omega) he κ σ M' P' q' C' c1 c2 c3 c4) (spC rw b t s.1).length 0 fu κ σ P q C M (Nat.zero_add _) (by omega) hM hS leF_r hκ
/-- what is unspent, what is left over, and the ledger after t transactions of b -/
def Uq (rw : Nat → List Int32) (hgt : Nat → Nat) (b : Nat) (U : List Cn) : Nat → List Cn
  | 0 => U
  | t + 1 => (stp0 rw hgt b t (Uq rw hgt b U t)).2.1
def Fq (rw : Nat → List Int32) (hgt : Nat → Nat) (b : Nat) (U : List Cn) : Nat → Nat
  | 0 => 0
  | t + 1 => Fq rw hgt b U t + (stp0 rw hgt b t (Uq rw hgt b U t)).2.2
def Sq (rw : Nat → List Int32) (b : Nat) (s : Ld) : Nat → Ld
  | 0 => s
  | t + 1 => exS rw b t (Sq rw b s t)
/-- the first T go well, then w -/
def cnT (rw : Nat → List Int32) (hgt : Nat → Nat) (b : Nat) (U : List Cn) (T w : Nat) : Prop := T ≤ (TLb rw b).length ∧ (∀ t, t < T → (stp0 rw hgt b t (Uq rw hgt b U t)).1 = 0) ∧ ((T < (TLb rw b).length ∧ w ≠ 0 ∧ w = (stp0 rw hgt b T (Uq rw hgt b U T)).1) ∨ (T = (TLb rw b).length ∧ w = if sbs (hgt b) + Fq rw hgt b U T < ouS rw b 0 then 14 else 0))
set_option maxHeartbeats 400000 in
theorem Sq_I {rw : Nat → List Int32} {nb N : Nat} {hgt tim : Nat → Nat} {s : Ld} (h : ldI rw nb N s) {b : Nat} (hb : b < nb) (hbk : bkS rw hgt tim b) {U : List Cn} (hU : ∀ x, x ∈ s.1 ↔ x ∈ U) (hN : s.2.1.length + nIn (TLb rw b) + 2 * nOut (TLb rw b) ≤ N) : ∀ T, T ≤ (TLb rw b).length → (∀ t, t < T → (stp0 rw hgt b t (Uq rw hgt b U t)).1 = 0) → ldI rw nb N (Sq rw b s T) ∧ leC s (Sq rw b s T) ∧ (∀ x, x ∈ (Sq rw b s T).1 ↔ x ∈ Uq rw hgt b U T) ∧ ∃ D, (Sq rw b s T).2.1 = s.2.1 ++ D ∧ D.length ≤ nIn ((TLb rw b).take T) + 2 * nOut ((TLb rw b).take T)
  | 0, _, _ => ⟨h, leC_r s, hU, [], (List.append_nil _).symm, Nat.zero_le _⟩
  | T + 1, hT, h0 => by
    obtain ⟨i1, i2, i3, D, i4, i5⟩ := Sq_I h hb hbk hU hN T (by omega) (fun t ht => h0 t (by omega))
    have ht : T < (TLb rw b).length := by omega
    have hi : nIn ((TLb rw b).take (T + 1)) = nIn ((TLb rw b).take T) + (txO rw b T).2.1.length := nIn_tk (TLb rw b) T ht
    have ho : nOut ((TLb rw b).take (T + 1)) = nOut ((TLb rw b).take T) + (txO rw b T).2.2.2.1.length := nOut_tk (TLb rw b) T ht
    have hm1 := nOut_m2 (TLb rw b) (t := T + 1) (t' := (TLb rw b).length) (by omega)
    have hm2 := nIn_m2 (TLb rw b) (t := T + 1) (t' := (TLb rw b).length) (by omega)
    rw [List.take_length] at hm1 hm2
    have hl : (Sq rw b s T).2.1.length = s.2.1.length + D.length := by rw [i4, List.length_append]
    obtain ⟨j1, j2, j3, D', j4, j5⟩ := exS_I (hgt := hgt) i1 (bk_t hbk ht).2.2 (fun j hj => ⟨⟨hb, ht⟩, hj⟩) i3 (h0 T (by omega)) (by omega)
    refine ⟨j1, (leC_t i2 j2).1, j3, D ++ D', ?_, by rw [List.length_append]; omega⟩
    show (exS rw b T (Sq rw b s T)).2.1 = _
    rw [j4, i4, List.append_assoc]
set_option maxHeartbeats 400000 in
theorem Sq_m {rw : Nat → List Int32} {nb N : Nat} {hgt tim : Nat → Nat} {s : Ld} (h : ldI rw nb N s) {b : Nat} (hb : b < nb) (hbk : bkS rw hgt tim b) {U : List Cn} (hU : ∀ x, x ∈ s.1 ↔ x ∈ U) (hN : s.2.1.length + nIn (TLb rw b) + 2 * nOut (TLb rw b) ≤ N) {T : Nat} (hT : T ≤ (TLb rw b).length) (h0 : ∀ t, t < T → (stp0 rw hgt b t (Uq rw hgt b U t)).1 = 0) : ∀ r t, t + r = T → leC (Sq rw b s t) (Sq rw b s T)
  | 0, t, ht => by rw [show t = T from by omega]; exact leC_r _
  | r + 1, t, ht => by
    obtain ⟨i1, i2, i3, D, i4, i5⟩ := Sq_I h hb hbk hU hN t (by omega) (fun t' ht' => h0 t' (by omega))
    have htl : t < (TLb rw b).length := by omega
    have hi : nIn ((TLb rw b).take (t + 1)) = nIn ((TLb rw b).take t) + (txO rw b t).2.1.length := nIn_tk (TLb rw b) t htl
    have ho : nOut ((TLb rw b).take (t + 1)) = nOut ((TLb rw b).take t) + (txO rw b t).2.2.2.1.length := nOut_tk (TLb rw b) t htl
    have hm1 := nOut_m2 (TLb rw b) (t := t + 1) (t' := (TLb rw b).length) (by omega)
    have hm2 := nIn_m2 (TLb rw b) (t := t + 1) (t' := (TLb rw b).length) (by omega)
    rw [List.take_length] at hm1 hm2
    have hl : (Sq rw b s t).2.1.length = s.2.1.length + D.length := by rw [i4, List.length_append]
    have j := exS_I (hgt := hgt) i1 (bk_t hbk htl).2.2 (fun j hj => ⟨⟨hb, htl⟩, hj⟩) i3 (h0 t (by omega)) (by omega)
    exact (leC_t j.2.1 (Sq_m h hb hbk hU hN hT h0 r (t + 1) (by omega))).1
set_option maxHeartbeats 400000 in
/-- such T and w are there -/
theorem cnT_x (rw : Nat → List Int32) (hgt : Nat → Nat) (b : Nat) (U : List Cn) : ∃ T w, cnT rw hgt b U T w := by
  have key : ∀ n T, n + T = (TLb rw b).length → (∀ t, t < T → (stp0 rw hgt b t (Uq rw hgt b U t)).1 = 0) → ∃ T w, cnT rw hgt b U T w := by
    intro n
    induction n with
    | zero => exact fun T hT h => ⟨T, _, by omega, h, Or.inr ⟨by omega, rfl⟩⟩
    | succ n ih =>
      intro T hT h
      by_cases g : (stp0 rw hgt b T (Uq rw hgt b U T)).1 = 0
      · refine ih (T + 1) (by omega) (fun t ht => ?_)
        by_cases e : t = T
        · rw [e]; exact g
        · exact h t (by omega)
      · exact ⟨T, _, by omega, h, Or.inl ⟨by omega, g, rfl⟩⟩
  exact key (TLb rw b).length 0 rfl (fun t ht => absurd ht (Nat.not_lt_zero _))
