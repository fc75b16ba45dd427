-- the reference's valid: what a transaction spends
set_option maxHeartbeats 1000000 in
theorem lN_su {a b : Nat} (h : b ≤ a) : lN a - lN b = lN (a - b) := by
  have := lN_a (a - b) b
  rw [Nat.sub_add_cancel h] at this
  rw [← this]
  exact Int64.add_sub_cancel _ _
set_option maxHeartbeats 1000000 in
/-- the k-th coin that is spent -/
theorem spn_g {rw : Nat → List Int32} {b t : Nat} {U : List Cn} {k : Nat} (hk : k < (txO rw b t).2.1.length) : (spn rw b t U).getD k none = fnd rw U (inK rw b ((txO rw b t).2.1.getD k d3)) := by
  unfold spn
  rw [gD_e _ none (by rw [List.length_map]; exact hk), List.getElem_map, ← gD_e _ d3 hk]
set_option maxHeartbeats 1000000 in
theorem spC_g {rw : Nat → List Int32} {b t : Nat} {U : List Cn} {k : Nat} (hk : k < (txO rw b t).2.1.length) : (spC rw b t U).getD k e_C = (fnd rw U (inK rw b ((txO rw b t).2.1.getD k d3))).getD e_C := by
  unfold spC spn
  rw [gD_e _ e_C (by rw [List.length_map, List.length_map]; exact hk), List.getElem_map, List.getElem_map, ← gD_e _ d3 hk]
set_option maxHeartbeats 1000000 in
theorem spC_len {rw : Nat → List Int32} {b t : Nat} {U : List Cn} : (spC rw b t U).length = (txO rw b t).2.1.length := by
  unfold spC spn
  rw [List.length_map, List.length_map]
set_option maxHeartbeats 1000000 in
theorem spn_no {rw : Nat → List Int32} {b t : Nat} {U : List Cn} : none ∈ spn rw b t U ↔ ∃ k, k < (txO rw b t).2.1.length ∧ fnd rw U (inK rw b ((txO rw b t).2.1.getD k d3)) = none := by
  constructor
  · intro h
    obtain ⟨k, hk, e⟩ := List.mem_iff_getElem.mp h
    have hk' : k < (txO rw b t).2.1.length := by
      have := hk
      unfold spn at this
      rw [List.length_map] at this
      exact this
    refine ⟨k, hk', ?_⟩
    rw [← spn_g hk', gD_e _ none hk]
    exact e
  · rintro ⟨k, hk, e⟩
    rw [← spn_g hk] at e
    have hl : k < (spn rw b t U).length := by
      unfold spn
      rw [List.length_map]
      exact hk
    rw [← e]
    exact gD_mem none _ hl
set_option maxHeartbeats 1000000 in
theorem fnd_in {rw : Nat → List Int32} {U : List Cn} {K : List Int32 × Nat} {c : Cn} (h : fnd rw U K = some c) : c ∈ U ∧ cnK rw c = K := by
  unfold fnd at h
  have := List.find?_some h
  exact ⟨List.mem_of_find?_eq_some h, of_decide_eq_true this⟩
/-- keys are unique -/
def kyU (rw : Nat → List Int32) (U : List Cn) : Prop := ∀ c c', c ∈ U → c' ∈ U → cnK rw c = cnK rw c' → c = c'
set_option maxHeartbeats 1000000 in
theorem kyU_l {rw : Nat → List Int32} {hgt : Nat → Nat} {Vd : Nat → Nat → Prop} {oG : Nat → Nat → Nat} {N : Nat} {cs : Nat → Cn} {uO uH uN ch uI : Nat → Int32} (hT : rTab rw hgt Vd oG N cs uO uH uN ch uI) : kyU rw (liv N uI cs) := fun c c' h h' hk => by
  obtain ⟨e, e1, e2, rfl⟩ := mem_liv.mp h
  obtain ⟨e', e1', e2', rfl⟩ := mem_liv.mp h'
  rw [hT.2.2 e e' e1 e1' e2 e2' hk]
set_option maxHeartbeats 1000000 in
/-- a coin by its key, where more coins are gone -/
theorem fnd_f {rw : Nat → List Int32} {U : List Cn} (hu : kyU rw U) {K : List Int32 × Nat} {c : Cn} (h : fnd rw U K = some c) {p : Cn → Bool} (hp : p c = true) : fnd rw (U.filter p) K = some c := by
  obtain ⟨h1, h2⟩ := fnd_in h
  cases hf : fnd rw (U.filter p) K with
  | none =>
    unfold fnd at hf
    rw [List.find?_eq_none] at hf
    exact absurd (decide_eq_true h2) (hf c (List.mem_filter.mpr ⟨h1, hp⟩))
  | some c' =>
    obtain ⟨g1, g2⟩ := fnd_in hf
    rw [hu c c' h1 (List.mem_filter.mp g1).1 (h2.trans g2.symm)]
/-- inputs are of different things -/
def inD (rw : Nat → List Int32) (b t : Nat) : Prop := ∀ k k', k < (txO rw b t).2.1.length → k' < (txO rw b t).2.1.length → inK rw b ((txO rw b t).2.1.getD k d3) = inK rw b ((txO rw b t).2.1.getD k' d3) → k = k'
/-- the first k of them are gone -/
def spT (rw : Nat → List Int32) (b t : Nat) (U : List Cn) (k : Nat) : List Cn := U.filter fun c => decide (c ∉ (spC rw b t U).take k)
set_option maxHeartbeats 1000000 in
theorem spT_0 (rw : Nat → List Int32) (b t : Nat) (U : List Cn) : spT rw b t U 0 = U := by
  unfold spT
  rw [List.filter_eq_self]
  intro c _
  rw [List.take_zero]
  exact decide_eq_true (by simp)
set_option maxHeartbeats 1000000 in
theorem spT_e (rw : Nat → List Int32) (b t : Nat) (U : List Cn) : spT rw b t U (txO rw b t).2.1.length = U.filter fun c => decide (c ∉ spC rw b t U) := by
  unfold spT
  rw [← spC_len (U := U), List.take_length]
set_option maxHeartbeats 1000000 in
theorem tk_g {L : List Cn} {k : Nat} (hk : k < L.length) : L.take (k + 1) = L.take k ++ [L.getD k e_C] := by
  rw [List.take_add_one, gD_e L e_C hk, List.getElem?_eq_getElem hk]
  rfl
set_option maxHeartbeats 1000000 in
theorem spT_s {rw : Nat → List Int32} {b t : Nat} {U : List Cn} (hu : kyU rw U) {k : Nat} (hk : k < (txO rw b t).2.1.length) {c : Cn} (hf : fnd rw U (inK rw b ((txO rw b t).2.1.getD k d3)) = some c) : (spT rw b t U k).filter (fun c => decide (cnK rw c ≠ inK rw b ((txO rw b t).2.1.getD k d3))) = spT rw b t U (k + 1) := by
  obtain ⟨h1, h2⟩ := fnd_in hf
  have eg : (spC rw b t U).getD k e_C = c := by rw [spC_g hk, hf]; rfl
  unfold spT
  rw [List.filter_filter]
  refine List.filter_congr fun c' hc' => ?_
  rw [tk_g (by rw [spC_len]; exact hk), eg]
  by_cases q : c' = c
  · subst q
    have e1 : decide (cnK rw c' ≠ inK rw b ((txO rw b t).2.1.getD k d3)) = false := decide_eq_false (fun z => z h2)
    have e2 : decide (c' ∉ (spC rw b t U).take k ++ [c']) = false := decide_eq_false (fun z => z (List.mem_append_right _ (List.mem_singleton.mpr rfl)))
    rw [e1, e2, Bool.false_and]
  · have e1 : decide (cnK rw c' ≠ inK rw b ((txO rw b t).2.1.getD k d3)) = true := decide_eq_true (fun z => q (hu c' c hc' h1 (z.trans h2.symm)))
    rw [e1, Bool.true_and]
    refine decide_eq_decide.mpr ⟨fun z w => ?_, fun z w => z (List.mem_append_left _ w)⟩
    rcases List.mem_append.mp w with w | w
    · exact z w
    · exact q (List.mem_singleton.mp w)
set_option maxHeartbeats 1000000 in
theorem spT_f {rw : Nat → List Int32} {b t : Nat} {U : List Cn} (hu : kyU rw U) (hd : inD rw b t) (hall : ∀ k, k < (txO rw b t).2.1.length → fnd rw U (inK rw b ((txO rw b t).2.1.getD k d3)) ≠ none) {k : Nat} (hk : k < (txO rw b t).2.1.length) {c : Cn} (hf : fnd rw U (inK rw b ((txO rw b t).2.1.getD k d3)) = some c) : fnd rw (spT rw b t U k) (inK rw b ((txO rw b t).2.1.getD k d3)) = some c := by
  refine fnd_f hu hf (decide_eq_true fun hm => ?_)
  obtain ⟨j, hj, e⟩ := List.mem_iff_getElem.mp hm
  rw [List.length_take] at hj
  have hjk : j < k := by omega
  have hjl : j < (txO rw b t).2.1.length := by omega
  rw [List.getElem_take] at e
  have e2 : (spC rw b t U).getD j e_C = c := by rw [gD_e _ e_C (by rw [spC_len]; exact hjl)]; exact e
  rw [spC_g hjl] at e2
  cases hfj : fnd rw U (inK rw b ((txO rw b t).2.1.getD j d3)) with
  | none => exact hall j hjl hfj
  | some c' =>
    rw [hfj] at e2
    replace e2 : c' = c := e2
    subst e2
    have := hd j k hjl hk ((fnd_in hfj).2.symm.trans (fnd_in hf).2)
    omega
set_option maxHeartbeats 1000000 in
/-- the reference looks up an input -/
theorem l_vin (fu : Nat) (hfu : 12000 ≤ fu) (z st tA tZ tI tN tNs tO tOs iA iS iL iQ oS oL oT one tC : Nat → Int32) {oV : Nat → Int64} {rw : Nat → List Int32} {hgt : Nat → Nat} {Vd : Nat → Nat → Prop} {sB : Nat → Nat} {tG iG oG : Nat → Nat → Nat} (hA : rAl rw Vd sB tG iG oG st tA tZ tI tN tNs tO tOs iA iS iL iQ oS oL oT one tC oV) {N : Nat} (hN : N ≤ 11600) {cs : Nat → Cn} {uO uH uN ch uI : Nat → Int32} (hT : rTab rw hgt Vd oG N cs uO uH uN ch uI) {b t k : Nat} (hV : Vd b t) (hk : k < (txO rw b t).2.1.length) {β : Type} (R : Int32 → Option β) (Q : β → Prop) (h0 : fnd rw (liv N uI cs) (inK rw b ((txO rw b t).2.1.getD k d3)) = none → ok (R (-1)) Q) (h1 : ∀ e, e < N → uI e = 1 → cnK rw (cs e) = inK rw b ((txO rw b t).2.1.getD k d3) → fnd rw (liv N uI cs) (inK rw b ((txO rw b t).2.1.getD k d3)) = some (cs e) → ok (R (nI e)) Q) : ok (gd (inb (nI (iG b t + k)) 2600) <| bnd (iA (nI (iG b t + k)).toNatClampNeg) fun v2 => gd (inb (nI (iG b t + k)) 2600) <| bnd (iA (nI (iG b t + k)).toNatClampNeg) fun v3 => bnd (v3 + (32 : Int32)) fun v4 => bd1 (x_M_small fu 103000 st v4) fun v5 => bd1 (x_M_entry fu z tI tO oT uO uN ch uI 103000 st v2 v5) R) Q := by
  obtain ⟨⟨a1, a2, a3, a4, a5, a6, a7⟩, hs, ⟨b1, b2, b3, b4, b5⟩, -, d, -⟩ := hA.2.2 b t hV
  obtain ⟨d1, -, -, -⟩ := d k hk
  obtain ⟨m1, m2, m3⟩ := b4 _ (gD_mem d3 (txO rw b t).2.1 hk)
  rw [nI_clamp (n := iG b t + k) (by omega), d1]
  refine ok_gd (inb_nI (by omega) (by decide)) (ok_bnd (ok_gd (inb_nI (by omega) (by decide)) (ok_bnd (ok_bn (nI_add _ 32) ?_))))
  rw [m_small fu 103000 (by decide) st (o := sB b + ((txO rw b t).2.1.getD k d3).1 + 32) (by omega), bd1_q]
  have e1 : bl st (sB b + ((txO rw b t).2.1.getD k d3).1) 32 = bl (lf (rw b)) ((txO rw b t).2.1.getD k d3).1 32 := bl_st hs (by omega)
  have e2 : leP st (sB b + ((txO rw b t).2.1.getD k d3).1 + 32) 4 = leP (lf (rw b)) (((txO rw b t).2.1.getD k d3).1 + 32) 4 := by rw [Nat.add_assoc, ← leL_bl, ← leL_bl, bl_st hs (by omega)]
  have ek : (bl st (sB b + ((txO rw b t).2.1.getD k d3).1) 32, leP st (sB b + ((txO rw b t).2.1.getD k d3).1 + 32) 4) = inK rw b ((txO rw b t).2.1.getD k d3) := by rw [e1, e2]; rfl
  have hE := v_M_entryC fu hfu z tI tO tOs oT uO uH uN ch uI hN (rAl_C hA) hT (n1 := 103000) (by decide) (h1 := st) (a := sB b + ((txO rw b t).2.1.getD k d3).1) (by omega) (fun j _ => hA.1 _) (x3 := leP st (sB b + ((txO rw b t).2.1.getD k d3).1 + 32) 4) (leP_32 _ _ _ (by decide))
  rw [ek] at hE
  refine ok_bd1 hE (fun v hv => ?_)
  rcases hv with ⟨rfl, -, v2⟩ | ⟨e, v1, v2, v3, rfl, v4⟩
  · exact h0 v2
  · exact h1 e v1 v2 v3 v4
