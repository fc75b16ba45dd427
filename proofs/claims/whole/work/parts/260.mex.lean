-- a transaction's coins go and come: the ledger's states
def fpK (s : Ld) (cs : List Cn) : Nat → Ld
  | 0 => s
  | k + 1 => fpS (fpK s cs k) (cs.getD k e_C)
def ptN (rw : Nat → List Int32) (b t : Nat) (s : Ld) : Nat → Ld
  | 0 => s
  | j + 1 => ptS rw (ptN rw b t s j) (b, t, j)
set_option maxHeartbeats 400000 in
theorem tk_s {L : List Cn} {k : Nat} (hk : k < L.length) : L.take (k + 1) = L.take k ++ [L.getD k e_C] := by
  rw [List.take_add_one, List.getD_eq_getElem?_getD, List.getElem?_eq_getElem hk]
  rfl
set_option maxHeartbeats 400000 in
theorem nd_tk {L : List Cn} (h : L.Nodup) {k : Nat} (hk : k < L.length) : L.getD k e_C ∉ L.take k := fun z => by
  have h1 : (L.take (k + 1)).Nodup := h.sublist (List.take_sublist _ _)
  rw [tk_s hk] at h1
  exact (List.nodup_append.mp h1).2.2 _ z _ (List.mem_singleton.mpr rfl) rfl
set_option maxHeartbeats 400000 in
theorem fpK_I {rw : Nat → List Int32} {nb N : Nat} {s : Ld} (h : ldI rw nb N s) {cs : List Cn} (hn : cs.Nodup) (hc : ∀ c, c ∈ cs → c ∈ s.1) : ∀ k, k ≤ cs.length → s.2.1.length + k ≤ N → ldI rw nb N (fpK s cs k) ∧ leC s (fpK s cs k) ∧ (∀ x, x ∈ (fpK s cs k).1 ↔ x ∈ s.1 ∧ x ∉ cs.take k) ∧ (fpK s cs k).2.1 = s.2.1 ++ cs.take k
  | 0, _, _ => ⟨h, leC_r s, fun x => ⟨fun w => ⟨w, by rw [List.take_zero]; exact List.not_mem_nil⟩, fun w => w.1⟩, by rw [List.take_zero, List.append_nil]; rfl⟩
  | k + 1, hk, hN => by
    obtain ⟨i1, i2, i3, i4⟩ := fpK_I h hn hc k (by omega) (by omega)
    have hkl : k < cs.length := by omega
    have hm : cs.getD k e_C ∈ (fpK s cs k).1 := (i3 _).mpr ⟨hc _ (gDe hkl), nd_tk hn hkl⟩
    have hl : (fpK s cs k).2.1.length = s.2.1.length + k := by
      rw [i4, List.length_append, List.length_take, Nat.min_eq_left (by omega)]
    obtain ⟨j1, j2⟩ := fpS_I i1 (ldI_v i1 hm) (Or.inl hm) (by omega)
    refine ⟨j1, (leC_t i2 j2).1, fun x => ?_, ?_⟩
    · show x ∈ chL (fpK s cs k).1 (cs.getD k e_C) ↔ _
      rw [(chL_p i1.1 (cs.getD k e_C)).2.1 x, i3 x, tk_s hkl]
      constructor
      · intro w
        rcases w with ⟨w1, w2, w3⟩ | ⟨-, w⟩
        · refine ⟨w2, fun y => ?_⟩
          rcases List.mem_append.mp y with y | y
          · exact w3 y
          · exact w1 (List.mem_singleton.mp y)
        · exact absurd hm w
      · exact fun w => Or.inl ⟨fun e => w.2 (List.mem_append_right _ (List.mem_singleton.mpr e)), w.1, fun y => w.2 (List.mem_append_left _ y)⟩
    · show (fpK s cs k).2.1 ++ [cs.getD k e_C] = _
      rw [i4, tk_s hkl, List.append_assoc]
set_option maxHeartbeats 400000 in
theorem fpK_s {rw : Nat → List Int32} {nb N : Nat} {s : Ld} (h : ldI rw nb N s) {cs : List Cn} (hn : cs.Nodup) (hc : ∀ c, c ∈ cs → c ∈ s.1) {k : Nat} (hk : k < cs.length) (hN : s.2.1.length + k < N) : leC (fpK s cs k) (fpK s cs (k + 1)) ∧ cVd rw nb (cs.getD k e_C) := by
  obtain ⟨i1, i2, i3, i4⟩ := fpK_I h hn hc k (by omega) (by omega)
  have hm : cs.getD k e_C ∈ (fpK s cs k).1 := (i3 _).mpr ⟨hc _ (gDe hk), nd_tk hn hk⟩
  have hl : (fpK s cs k).2.1.length = s.2.1.length + k := by
    rw [i4, List.length_append, List.length_take, Nat.min_eq_left (by omega)]
  exact ⟨(fpS_I i1 (ldI_v i1 hm) (Or.inl hm) (by omega)).2, ldI_v i1 hm⟩
set_option maxHeartbeats 400000 in
theorem fpK_m {rw : Nat → List Int32} {nb N : Nat} {s : Ld} (h : ldI rw nb N s) {cs : List Cn} (hn : cs.Nodup) (hc : ∀ c, c ∈ cs → c ∈ s.1) (hN : s.2.1.length + cs.length ≤ N) : ∀ r k, k + r = cs.length → leC (fpK s cs k) (fpK s cs cs.length)
  | 0, k, hk => by rw [show k = cs.length from by omega]; exact leC_r _
  | r + 1, k, hk => (leC_t (fpK_s h hn hc (k := k) (by omega) (by omega)).1 (fpK_m h hn hc hN r (k + 1) (by omega))).1
set_option maxHeartbeats 400000 in
theorem ptN_I {rw : Nat → List Int32} {nb N : Nat} {s : Ld} (h : ldI rw nb N s) {b t n : Nat} (hv : ∀ j, j < n → cVd rw nb (b, t, j)) {U : List Cn} (hU : ∀ x, x ∈ s.1 ↔ x ∈ U) : ∀ j, j ≤ n → s.2.1.length + 2 * j ≤ N → ldI rw nb N (ptN rw b t s j) ∧ leC s (ptN rw b t s j) ∧ (∀ x, x ∈ (ptN rw b t s j).1 ↔ x ∈ adO rw b t U j) ∧ ∃ D, (ptN rw b t s j).2.1 = s.2.1 ++ D ∧ D.length ≤ 2 * j
  | 0, _, _ => ⟨h, leC_r s, hU, [], (List.append_nil _).symm, Nat.le_refl _⟩
  | j + 1, hj, hN => by
    obtain ⟨i1, i2, i3, D, i4, i5⟩ := ptN_I h hv hU j (by omega) (by omega)
    have hl : (ptN rw b t s j).2.1.length ≤ s.2.1.length + 2 * j := by
      rw [i4, List.length_append]
      omega
    obtain ⟨⟨j1, j2⟩, j3, D', j4, j5⟩ := ptS_I i1 (hv j (by omega)) (by omega)
    refine ⟨j1, (leC_t i2 j2).1, fun x => ?_, D ++ D', ?_, by rw [List.length_append]; omega⟩
    · show x ∈ (ptS rw (ptN rw b t s j) (b, t, j)).1 ↔ x ∈ (adO rw b t U j).filter (fun c => decide (cnK rw c ≠ cnK rw (b, t, j))) ++ [(b, t, j)]
      rw [j3 x, List.mem_append, List.mem_filter, i3 x, List.mem_singleton, decide_eq_true_iff]
      exact ⟨fun w => w.symm, fun w => w.symm⟩
    · show (ptS rw (ptN rw b t s j) (b, t, j)).2.1 = _
      rw [j4, i4, List.append_assoc]
set_option maxHeartbeats 400000 in
theorem ptN_s {rw : Nat → List Int32} {nb N : Nat} {s : Ld} (h : ldI rw nb N s) {b t n : Nat} (hv : ∀ j, j < n → cVd rw nb (b, t, j)) {j : Nat} (hj : j < n) (hN : s.2.1.length + 2 * (j + 1) ≤ N) : leC (ptN rw b t s j) (ptN rw b t s (j + 1)) := by
  obtain ⟨i1, i2, i3, D, i4, i5⟩ := ptN_I h hv (fun x => Iff.rfl) j (by omega) (by omega)
  have hl : (ptN rw b t s j).2.1.length ≤ s.2.1.length + 2 * j := by
    rw [i4, List.length_append]
    omega
  exact (ptS_I i1 (hv j hj) (by omega)).1.2
set_option maxHeartbeats 400000 in
theorem ptN_m {rw : Nat → List Int32} {nb N : Nat} {s : Ld} (h : ldI rw nb N s) {b t n : Nat} (hv : ∀ j, j < n → cVd rw nb (b, t, j)) (hN : s.2.1.length + 2 * n ≤ N) : ∀ r j, j + r = n → leC (ptN rw b t s j) (ptN rw b t s n)
  | 0, j, hj => by rw [show j = n from by omega]; exact leC_r _
  | r + 1, j, hj => (leC_t (ptN_s h hv (j := j) (by omega) (by omega)) (ptN_m h hv hN r (j + 1) (by omega))).1
/-- a transaction's exchange -/
def exS (rw : Nat → List Int32) (b t : Nat) (s : Ld) : Ld := ptN rw b t (if t = 0 then s else fpK s (spC rw b t s.1) (txO rw b t).2.1.length) (txO rw b t).2.2.2.1.length
set_option maxHeartbeats 400000 in
theorem spC_nd {rw : Nat → List Int32} {b t : Nat} {U : List Cn} (hd : inD rw b t) (hno : none ∉ spn rw b t U) : (spC rw b t U).Nodup ∧ ∀ c, c ∈ spC rw b t U → c ∈ U := by
  constructor
  · refine List.pairwise_iff_getElem.mpr fun i j hi hj hij e => ?_
    have hi' : i < (txO rw b t).2.1.length := by rw [← spC_len (U := U)]; exact hi
    have hj' : j < (txO rw b t).2.1.length := by rw [← spC_len (U := U)]; exact hj
    obtain ⟨c, e1, e2, -⟩ := spC_mem hno hi'
    obtain ⟨c', e1', e2', -⟩ := spC_mem hno hj'
    have e3 : (spC rw b t U).getD i e_C = (spC rw b t U).getD j e_C := by
      rw [List.getD_eq_getElem?_getD, List.getElem?_eq_getElem hi, List.getD_eq_getElem?_getD, List.getElem?_eq_getElem hj, e]
    rw [e2, e2'] at e3
    subst e3
    have := hd i j hi' hj' ((fnd_in e1).2.symm.trans (fnd_in e1').2)
    omega
  · intro c hc
    obtain ⟨i, hi, e⟩ := me_gD hc
    rw [spC_len] at hi
    obtain ⟨c', e1, e2, -⟩ := spC_mem hno hi
    rw [← e, e2]
    exact (fnd_in e1).1
set_option maxHeartbeats 400000 in
/-- the same things are found in lists with the same members -/
theorem fnd_p {rw : Nat → List Int32} {L U : List Cn} (h : ∀ x, x ∈ L ↔ x ∈ U) (hk : kyU rw L) (K : List Int32 × Nat) : fnd rw L K = fnd rw U K := by
  cases e : fnd rw L K with
  | none =>
    cases e' : fnd rw U K with
    | none => rfl
    | some c =>
      obtain ⟨h1, h2⟩ := fnd_in e'
      unfold fnd at e
      exact absurd (decide_eq_true h2) (List.find?_eq_none.mp e c ((h c).mpr h1))
  | some c =>
    obtain ⟨h1, h2⟩ := fnd_in e
    cases e' : fnd rw U K with
    | none =>
      unfold fnd at e'
      exact absurd (decide_eq_true h2) (List.find?_eq_none.mp e' c ((h c).mp h1))
    | some c' =>
      obtain ⟨h1', h2'⟩ := fnd_in e'
      rw [hk c c' h1 ((h c').mpr h1') (h2.trans h2'.symm)]
set_option maxHeartbeats 400000 in
theorem spn_p {rw : Nat → List Int32} {L U : List Cn} (h : ∀ x, x ∈ L ↔ x ∈ U) (hk : kyU rw L) (b t : Nat) : spn rw b t L = spn rw b t U ∧ spC rw b t L = spC rw b t U := by
  have e : spn rw b t L = spn rw b t U := by
    unfold spn
    exact List.map_congr_left fun i _ => fnd_p h hk _
  refine ⟨e, ?_⟩
  unfold spC
  rw [e]
set_option maxHeartbeats 400000 in
/-- after a transaction the members are as they should be -/
theorem exS_I {rw : Nat → List Int32} {nb N : Nat} {hgt : Nat → Nat} {s : Ld} (h : ldI rw nb N s) {b t : Nat} (hd : inD rw b t) (hv : ∀ j, j < (txO rw b t).2.2.2.1.length → cVd rw nb (b, t, j)) {U : List Cn} (hU : ∀ x, x ∈ s.1 ↔ x ∈ U) (h0 : (stp0 rw hgt b t U).1 = 0) (hN : s.2.1.length + (txO rw b t).2.1.length + 2 * (txO rw b t).2.2.2.1.length ≤ N) : ldI rw nb N (exS rw b t s) ∧ leC s (exS rw b t s) ∧ (∀ x, x ∈ (exS rw b t s).1 ↔ x ∈ (stp0 rw hgt b t U).2.1) ∧ ∃ D, (exS rw b t s).2.1 = s.2.1 ++ D ∧ D.length ≤ (txO rw b t).2.1.length + 2 * (txO rw b t).2.2.2.1.length := by
  unfold exS
  by_cases ht : t = 0
  · rw [if_pos ht]
    obtain ⟨i1, i2, i3, D, i4, i5⟩ := ptN_I h hv hU _ (Nat.le_refl _) (by omega)
    refine ⟨i1, i2, fun x => ?_, D, i4, by omega⟩
    rw [i3 x]
    unfold stp0
    rw [if_pos ht]
  · rw [if_neg ht]
    obtain ⟨e1, e2⟩ := spn_p hU (ldI_s h).2 b t
    unfold stp0 at h0 ⊢
    rw [if_neg ht] at h0 ⊢
    by_cases g1 : none ∈ spn rw b t U
    · rw [if_pos g1] at h0
      replace h0 : (10 : Nat) = 0 := h0
      exact absurd h0 (by decide)
    rw [if_neg g1] at h0 ⊢
    by_cases g2 : (spC rw b t U).any (unR hgt b) = true
    · rw [if_pos g2] at h0
      replace h0 : (11 : Nat) = 0 := h0
      exact absurd h0 (by decide)
    rw [if_neg g2] at h0 ⊢
    by_cases g3 : sumL (cnV rw) (spC rw b t U) < ouS rw b t
    · rw [if_pos g3] at h0
      replace h0 : (12 : Nat) = 0 := h0
      exact absurd h0 (by decide)
    rw [if_neg g3]
    have g1' : none ∉ spn rw b t s.1 := by rw [e1]; exact g1
    obtain ⟨n1, n2⟩ := spC_nd hd g1'
    have hle := spC_len (rw := rw) (b := b) (t := t) (U := s.1)
    obtain ⟨k1, k2, k3, k4⟩ := fpK_I h n1 n2 (txO rw b t).2.1.length (by omega) (by omega)
    have hl : (fpK s (spC rw b t s.1) (txO rw b t).2.1.length).2.1.length ≤ s.2.1.length + (txO rw b t).2.1.length := by
      rw [k4, List.length_append, List.length_take]
      omega
    obtain ⟨i1, i2, i3, D, i4, i5⟩ := ptN_I k1 hv (U := U.filter fun c => decide (c ∉ spC rw b t U)) (fun x => by
      rw [k3 x, List.mem_filter, decide_eq_true_iff, hU x, ← hle, List.take_length, e2]) _ (Nat.le_refl _) (by omega)
    refine ⟨i1, (leC_t k2 i2).1, i3, (spC rw b t s.1).take (txO rw b t).2.1.length ++ D, ?_, ?_⟩
    · rw [i4, k4, List.append_assoc]
    · rw [List.length_append, List.length_take]
      omega
