-- a block is connected: sums, and what else is wanted
set_option maxHeartbeats 400000 in
theorem cnV_b {rw : Nat → List Int32} {hgt tim : Nat → Nat} {nb : Nat} (hA : bkA rw hgt tim nb) {c : Cn} (hc : cVd rw nb c) : cnV rw c ≤ 2100000000000000 := by
  have hb0 : 0 < c.1 := by
    rcases Nat.eq_zero_or_pos c.1 with z | z
    · have := hc.1.2
      rw [z, TLb_0 hA.1] at this
      exact absurd this (Nat.not_lt_zero _)
    · exact z
  have hb := hA.2 c.1 hb0 hc.1.1
  exact ((bk_t hb hc.1.2).1.2.2.2.2 (cnO rw c) (by unfold cnO; rw [← gD3 _ hc.2]; exact List.getElem_mem hc.2)).2.2.2
set_option maxHeartbeats 400000 in
theorem spS_b {rw : Nat → List Int32} {hgt tim : Nat → Nat} {nb : Nat} (hA : bkA rw hgt tim nb) {U : List Cn} (hU : ∀ c, c ∈ U → cVd rw nb c) {b t : Nat} (hno : none ∉ spn rw b t U) : sumL (cnV rw) (spC rw b t U) ≤ 2100000000000000 * (txO rw b t).2.1.length := by
  have := sumL_le (f := cnV rw) (m := 2100000000000000) (spC rw b t U) (fun x hx => by
    obtain ⟨k, hk, e⟩ := me_gD hx
    rw [spC_len] at hk
    obtain ⟨c, e1, e2, -⟩ := spC_mem hno hk
    rw [← e, e2]
    exact cnV_b hA (hU c (fnd_in e1).1))
  rw [spC_len] at this
  exact this
set_option maxHeartbeats 400000 in
theorem ouS_b {rw : Nat → List Int32} {hgt tim : Nat → Nat} {b t : Nat} (hbk : bkS rw hgt tim b) (ht : t < (TLb rw b).length) : ouS rw b t ≤ 2100000000000000 * 400 := by
  have h := bk_t hbk ht
  have := sumL_le (f := fun o : In3 => leP (lf (rw b)) o.1 8) (m := 2100000000000000) (txO rw b t).2.2.2.1 (fun x hx => (h.1.2.2.2.2 x hx).2.2.2)
  exact Nat.le_trans this (Nat.mul_le_mul_left _ h.2.1.2)
set_option maxHeartbeats 400000 in
/-- how a transaction ends -/
theorem stp0_c {rw : Nat → List Int32} {hgt : Nat → Nat} {b t : Nat} {U : List Cn} (ht : t ≠ 0) : (none ∈ spn rw b t U → (stp0 rw hgt b t U).1 = 10) ∧ (none ∉ spn rw b t U → (spC rw b t U).any (unR hgt b) = true → (stp0 rw hgt b t U).1 = 11) ∧ (none ∉ spn rw b t U → ¬ (spC rw b t U).any (unR hgt b) = true → sumL (cnV rw) (spC rw b t U) < ouS rw b t → (stp0 rw hgt b t U).1 = 12) ∧ (none ∉ spn rw b t U → ¬ (spC rw b t U).any (unR hgt b) = true → ¬ sumL (cnV rw) (spC rw b t U) < ouS rw b t → (stp0 rw hgt b t U).1 = 0 ∧ (stp0 rw hgt b t U).2.2 = sumL (cnV rw) (spC rw b t U) - ouS rw b t) := by
  unfold stp0
  rw [if_neg ht]
  refine ⟨fun h => ?_, fun h h2 => ?_, fun h h2 h3 => ?_, fun h h2 h3 => ?_⟩
  · rw [if_pos h]
  · rw [if_neg h, if_pos h2]
  · rw [if_neg h, if_neg h2, if_pos h3]
  · rw [if_neg h, if_neg h2, if_neg h3]
    exact ⟨rfl, rfl⟩
set_option maxHeartbeats 400000 in
theorem stp0_z {rw : Nat → List Int32} {hgt : Nat → Nat} {b : Nat} {U : List Cn} : (stp0 rw hgt b 0 U).1 = 0 ∧ (stp0 rw hgt b 0 U).2.2 = 0 := by
  unfold stp0
  rw [if_pos rfl]
  exact ⟨rfl, rfl⟩
set_option maxHeartbeats 400000 in
theorem stp0_f {rw : Nat → List Int32} {hgt tim : Nat → Nat} {nb : Nat} (hA : bkA rw hgt tim nb) {U : List Cn} (hU : ∀ c, c ∈ U → cVd rw nb c) {b t : Nat} : (stp0 rw hgt b t U).2.2 ≤ 2100000000000000 * (txO rw b t).2.1.length := by
  by_cases g : t = 0
  · rw [g, stp0_z.2]
    exact Nat.zero_le _
  · unfold stp0
    rw [if_neg g]
    by_cases g1 : none ∈ spn rw b t U
    · rw [if_pos g1]; exact Nat.zero_le _
    rw [if_neg g1]
    by_cases g2 : (spC rw b t U).any (unR hgt b) = true
    · rw [if_pos g2]; exact Nat.zero_le _
    rw [if_neg g2]
    by_cases g3 : sumL (cnV rw) (spC rw b t U) < ouS rw b t
    · rw [if_pos g3]; exact Nat.zero_le _
    rw [if_neg g3]
    exact Nat.le_trans (Nat.sub_le _ _) (spS_b hA hU g1)
set_option maxHeartbeats 400000 in
theorem Fq_b {rw : Nat → List Int32} {hgt tim : Nat → Nat} {nb b : Nat} (hA : bkA rw hgt tim nb) {U : List Cn} : ∀ T, T ≤ (TLb rw b).length → (∀ t, t < T → ∀ c, c ∈ Uq rw hgt b U t → cVd rw nb c) → Fq rw hgt b U T ≤ 2100000000000000 * nIn ((TLb rw b).take T)
  | 0, _, _ => Nat.zero_le _
  | T + 1, hT, h => by
    have ih := Fq_b hA T (by omega) (fun t ht => h t (by omega))
    have hi : nIn ((TLb rw b).take (T + 1)) = nIn ((TLb rw b).take T) + (txO rw b T).2.1.length := nIn_tk (TLb rw b) T (by omega)
    have hf := stp0_f (hgt := hgt) hA (h T (by omega)) (b := b) (t := T)
    show Fq rw hgt b U T + (stp0 rw hgt b T (Uq rw hgt b U T)).2.2 ≤ _
    rw [hi, Nat.mul_add]
    omega
set_option maxHeartbeats 400000 in
theorem lN_sb {a b : Nat} (h : b ≤ a) : lN a - lN b = lN (a - b) := by
  have e : lN a = lN (a - b) + lN b := by
    rw [lN_a]
    congr 1
    omega
  rw [e, Int64.add_sub_cancel]
set_option maxHeartbeats 400000 in
/-- flags of one block change -/
theorem ldM_s {P : Nat → Prop} {q : Nat → Nat} {C : Nat → va_E} {cy : Nat → ClassId} {ad : Nat → Nat} {nb : Nat} {par hgt tim : Nat → Nat} {bit : Nat → Int32} {bad : Nat → Bool} {rw : Nat → List Int32} {vl : Nat → Bool} {mk : Nat → Nat} {s : Ld} (h : ldM P q C cy ad nb par hgt tim bit bad rw vl mk s) (hO : oK rw nb) {x : Nat} {bad' vl' : Nat → Bool} {mk' : Nat → Nat} (he : ∀ b, b ≠ x → bad' b = bad b ∧ vl' b = vl b ∧ mk' b = mk b) : ldM P q (va_up C (kB x) (blO q par hgt tim bit x (bad' x) (vl' x) (mk' x))) cy ad nb par hgt tim bit bad' rw vl' mk' s := by
  obtain ⟨sl, h0, hB, h130, hLu, hLh, hr⟩ := h
  have hk : ∀ {j}, j < 256 → va_up C (kB x) (blO q par hgt tim bit x (bad' x) (vl' x) (mk' x)) j = C j := fun h => up_n (by unfold kB; omega)
  exact ⟨sl, h0, bkR_s hB hO he, (hk (by decide)).trans h130, alR_c hLu (hk (by decide)) (hk (by decide)), alR_c hLh (hk (by decide)) (hk (by decide)), hr⟩
/-- what connecting leaves as it was -/
def coF (P : Nat → Prop) (q : Nat → Nat) (C : Nat → va_E) (P' : Nat → Prop) (q' : Nat → Nat) (C' : Nat → va_E) : Prop := (∀ j, P j → P' j) ∧ (∀ j, P' j → P j ∨ j = 220 ∨ j = 221) ∧ (∀ j, j ≠ 220 → j ≠ 221 → q' j = q j) ∧ ∀ j, j < 256 → j ≠ 103 → (j < 120 ∨ 129 < j) → j ≠ 131 → j ≠ 132 → j ≠ 134 → j ≠ 220 → j ≠ 221 → C' j = C j
set_option maxHeartbeats 400000 in
theorem coF_r {P : Nat → Prop} {q : Nat → Nat} {C C' : Nat → va_E} (h : ∀ j, j < 256 → j ≠ 103 → (j < 120 ∨ 129 < j) → j ≠ 131 → j ≠ 132 → j ≠ 134 → j ≠ 220 → j ≠ 221 → C' j = C j) : coF P q C P q C' := ⟨fun _ h => h, fun _ h => Or.inl h, fun _ _ _ => rfl, h⟩
set_option maxHeartbeats 400000 in
theorem coF_t {P P1 P2 : Nat → Prop} {q q1 q2 : Nat → Nat} {C C1 C2 : Nat → va_E} (h1 : coF P q C P1 q1 C1) (h2 : coF P1 q1 C1 P2 q2 C2) : coF P q C P2 q2 C2 := by
  refine ⟨fun j h => h2.1 j (h1.1 j h), fun j h => ?_, fun j a b => (h2.2.2.1 j a b).trans (h1.2.2.1 j a b), fun j a b c d e f g k => (h2.2.2.2 j a b c d e f g k).trans (h1.2.2.2 j a b c d e f g k)⟩
  rcases h2.2.1 j h with h | h
  · exact h1.2.1 j h
  · exact Or.inr h
set_option maxHeartbeats 400000 in
theorem coF_l {P P1 : Nat → Prop} {q q1 : Nat → Nat} {C C1 : Nat → va_E} (h : leF P q C P1 q1 C1) : coF P q C P1 q1 C1 := ⟨h.1, h.2.1, h.2.2.1, fun j a _ _ d e _ g k => h.2.2.2 j a d e g k⟩
/-- the coins that were collected -/
def spQ (rw : Nat → List Int32) (hgt : Nat → Nat) (q : Nat → Nat) (b : Nat) (U : List Cn) (T : Nat) (f : Nat → Option Nat) : Prop := ∀ t k, 0 < t → t < T → k < (txO rw b t).2.1.length → f (nIn ((TLb rw b).take t) + k) = some (q (ck rw ((spC rw b t (Uq rw hgt b U t)).getD k e_C)))
set_option maxHeartbeats 400000 in
theorem spQ_q {rw : Nat → List Int32} {hgt : Nat → Nat} {q q' : Nat → Nat} {b : Nat} {U : List Cn} {T : Nat} {f : Nat → Option Nat} (h : spQ rw hgt q b U T f) (e : ∀ j, j ≠ 220 → j ≠ 221 → q' j = q j) : spQ rw hgt q' b U T f := fun t k h0 ht hk => by
  have hcb := ck_b (rw := rw) ((spC rw b t (Uq rw hgt b U t)).getD k e_C)
  rw [e _ (by omega) (by omega)]
  exact h t k h0 ht hk
set_option maxHeartbeats 400000 in
theorem spQ_f {rw : Nat → List Int32} {hgt : Nat → Nat} {q : Nat → Nat} {b : Nat} {U : List Cn} {T : Nat} (hT : T ≤ (TLb rw b).length) {f f' : Nat → Option Nat} (h : spQ rw hgt q b U T f) (e : ∀ i, i < nIn ((TLb rw b).take T) → f' i = f i) : spQ rw hgt q b U T f' := fun t k h0 ht hk => by
  have hi : nIn ((TLb rw b).take (t + 1)) = nIn ((TLb rw b).take t) + (txO rw b t).2.1.length := nIn_tk (TLb rw b) t (by omega)
  have hm := nIn_m2 (TLb rw b) (t := t + 1) (t' := T) (by omega)
  rw [e _ (by omega)]
  exact h t k h0 ht hk
