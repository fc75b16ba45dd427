-- the reference's valid: the block
set_option maxHeartbeats 2000000 in
theorem sumL_le {α : Type} {f : α → Nat} {m : Nat} : ∀ L : List α, (∀ x, x ∈ L → f x ≤ m) → sumL f L ≤ m * L.length
  | [], _ => Nat.zero_le _
  | x :: L, h => by
    have h1 := h x List.mem_cons_self
    have h2 := sumL_le L (fun y hy => h y (List.mem_cons_of_mem _ hy))
    show f x + sumL f L ≤ m * (L.length + 1)
    rw [Nat.mul_succ]
    omega
set_option maxHeartbeats 2000000 in
theorem sumL_tk {α : Type} (f : α → Nat) (d : α) (L : List α) {k : Nat} (hk : k < L.length) : sumL f (L.take (k + 1)) = sumL f (L.take k) + f (L.getD k d) := by
  rw [List.take_add_one, gD_e L d hk, List.getElem?_eq_getElem hk, sumL_ap]
  rfl
set_option maxHeartbeats 2000000 in
theorem i_d5 {a d : Nat} (ha : a ≤ 60) (hd : d ≤ 60) : (5 : Int32) ≤ nI a - ((-1 : Int32) - ((-1 : Int32) - nI d)) ↔ d + 5 ≤ a := by
  have e : (-1 : Int32) - ((-1 : Int32) - nI d) = nI d := by
    rw [Int32.sub_eq_add_neg, Int32.sub_eq_add_neg, Int32.neg_add, Int32.neg_neg, Int32.sub_eq_add_neg, ← Int32.add_assoc, Int32.neg_neg]
    exact Int32.zero_add _
  rw [e, Int32.le_iff_toInt_le, Int32.toInt_sub, nI_toInt (by omega), nI_toInt (by omega), Int.bmod_eq_of_le (by omega) (by omega)]
  show (5 : Int) ≤ _ ↔ _
  omega
set_option maxHeartbeats 2000000 in
theorem i_neg {d : Nat} (hd : d ≤ 60) : ¬ (0 : Int32) ≤ (-1 : Int32) - nI d := by
  rw [Int32.le_iff_toInt_le, Int32.toInt_sub, nI_toInt (by omega), show (-1 : Int32).toInt = -1 from rfl, Int.bmod_eq_of_le (by omega) (by omega)]
  show ¬ (0 : Int) ≤ _
  omega
set_option maxHeartbeats 2000000 in
theorem stp0_10 {rw : Nat → List Int32} {hgt : Nat → Nat} {b t : Nat} {U : List Cn} (h0 : t ≠ 0) (h : none ∈ spn rw b t U) : stp0 rw hgt b t U = (10, U, 0) := by
  unfold stp0
  rw [if_neg h0, if_pos h]
set_option maxHeartbeats 2000000 in
theorem stp0_11 {rw : Nat → List Int32} {hgt : Nat → Nat} {b t : Nat} {U : List Cn} (h0 : t ≠ 0) (h : none ∉ spn rw b t U) (h1 : (spC rw b t U).any (unR hgt b) = true) : stp0 rw hgt b t U = (11, U, 0) := by
  unfold stp0
  rw [if_neg h0, if_neg h, if_pos h1]
set_option maxHeartbeats 2000000 in
theorem stp0_12 {rw : Nat → List Int32} {hgt : Nat → Nat} {b t : Nat} {U : List Cn} (h0 : t ≠ 0) (h : none ∉ spn rw b t U) (h1 : ¬ (spC rw b t U).any (unR hgt b) = true) (h2 : sumL (cnV rw) (spC rw b t U) < ouS rw b t) : stp0 rw hgt b t U = (12, U, 0) := by
  unfold stp0
  rw [if_neg h0, if_neg h, if_neg h1, if_pos h2]
set_option maxHeartbeats 2000000 in
theorem stp0_0 {rw : Nat → List Int32} {hgt : Nat → Nat} {b t : Nat} {U : List Cn} (h0 : t ≠ 0) (h : none ∉ spn rw b t U) (h1 : ¬ (spC rw b t U).any (unR hgt b) = true) (h2 : ¬ sumL (cnV rw) (spC rw b t U) < ouS rw b t) : stp0 rw hgt b t U = (0, adO rw b t (U.filter fun c => decide (c ∉ spC rw b t U)) (txO rw b t).2.2.2.1.length, sumL (cnV rw) (spC rw b t U) - ouS rw b t) := by
  unfold stp0
  rw [if_neg h0, if_neg h, if_neg h1, if_neg h2]
set_option maxHeartbeats 2000000 in
theorem spC_mem {rw : Nat → List Int32} {b t : Nat} {U : List Cn} (h : none ∉ spn rw b t U) {k : Nat} (hk : k < (txO rw b t).2.1.length) : ∃ c, fnd rw U (inK rw b ((txO rw b t).2.1.getD k d3)) = some c ∧ (spC rw b t U).getD k e_C = c ∧ c ∈ U := by
  cases hf : fnd rw U (inK rw b ((txO rw b t).2.1.getD k d3)) with
  | none => exact absurd (spn_no.mpr ⟨k, hk, hf⟩) h
  | some c => exact ⟨c, rfl, by rw [spC_g hk, hf]; rfl, (fnd_in hf).1⟩
set_option maxHeartbeats 2000000 in
/-- ripe, and worth enough -/
theorem l_va203 {F : Type} [Lean.Grind.Field F] [DecidableEq F] {c : Int → F} (hc : cH pP c) (fu : Nat) (hfu : 2 ^ 257 ≤ fu) (st gh bt bts tA tZ tI tN tNs tO tOs iA iS iL iQ : Nat → Int32) (oV : Nat → Int64) (oS oL oT one tC : Nat → Int32) {sgB : Nat → List Int32 → List Int32 → Bool} {rw : Nat → List Int32} {hgt : Nat → Nat} {Vd : Nat → Nat → Prop} {sB : Nat → Nat} {tG iG oG : Nat → Nat → Nat} {ev : Nat → Nat → List Cn → Prop} {b : Nat} (hsg : ∀ e K G, sgB e K G = true ↔ sgO c e K G) (hE : vEn sgB rw hgt Vd sB tG iG oG ev st gh bt bts tA tZ tI tN tNs tO tOs iA iS iL iQ oV oS oL oT one tC b) (K : K20) {z0 : Nat → Int32} {t n fee : Nat} {x5 : Int64} (ht : t < (TLb rw b).length) (ht0 : t ≠ 0) {U : List Cn} (hU : ev b t U) (hno : none ∉ spn rw b t U) (hu : kyU rw U) (hou : ouS rw b t < 2 ^ 60) {N : Nat} (hNo : N ≤ oG b t) (hK : (stp sgB rw hgt b t U (stp0 rw hgt b t U) ∧ (stp0 rw hgt b t U).1 = 0 ∧ (stp0 rw hgt b t U).2.2 ≤ 2100000000000000 * (txO rw b t).2.1.length) → ∀ cs z u1 uO uH uN ch uI s1 s2 s3 s4 s5 s6 s7 s8 s9 s10 s11 s12 s13 s14 s15 s16 s17 s18 s19 s20 s21 s22 s23 s24 s25 th sz tk mg id, vSt sgB rw hgt Vd iG oG ev z0 (oG b (t + 1)) (stp0 rw hgt b t U).2.1 (N + (txO rw b t).2.2.2.1.length) cs z u1 uO uH uN ch uI th → ok (K (nI b) (nI (hgt b)) (lN (fee + (stp0 rw hgt b t U).2.2)) x5 (nI (tG b t + 1)) z u1 uO uH uN ch uI s1 s2 s3 s4 s5 s6 s7 s8 s9 s10 s11 s12 s13 s14 s15 s16 s17 s18 s19 s20 s21 s22 s23 s24 s25 th sz tk mg id) (va38 sgB rw hgt Vd iG oG ev b z0 (vlW sgB rw hgt b (n + 1) t U fee))) : ∀ r k m cs z u1 uO uH uN ch uI s1 s2 s3 s4 s5 s6 s7 s8 s9 s10 s11 s12 s13 s14 s15 s16 s17 s18 s19 s20 s21 s22 s23 s24 s25 th sz tk mg id, k + r = (txO rw b t).2.1.length → r < m → (∀ j, j < k → unR hgt b ((spC rw b t U).getD j e_C) = false) → vSt sgB rw hgt Vd iG oG ev z0 (oG b t) U N cs z u1 uO uH uN ch uI th → ok (x_M_valid_203 fu st gh bt bts tA tZ tI tN tNs tO tOs iA iS iL iQ oV oS oL oT one tC K m (nI b) (nI (hgt b)) (lN fee) x5 (nI (tG b t)) (lN (sumL (cnV rw) ((spC rw b t U).take k))) (lN (ouS rw b t)) (nI (iG b t + (txO rw b t).2.1.length)) (nI (iG b t + k)) z u1 uO uH uN ch uI s1 s2 s3 s4 s5 s6 s7 s8 s9 s10 s11 s12 s13 s14 s15 s16 s17 s18 s19 s20 s21 s22 s23 s24 s25 th sz tk mg id) (va38 sgB rw hgt Vd iG oG ev b z0 (vlW sgB rw hgt b (n + 1) t U fee)) := by
  have hfu2 : 40000 ≤ fu := Nat.le_trans (by decide) hfu
  have hE' := hE
  obtain ⟨hA, hI, hev, hst, hh, ⟨p1, p2, p3, p4, p5⟩, hTt, p6, p7, p8⟩ := hE
  obtain ⟨v1, v2, v3, v4, v5⟩ := hTt t ht
  obtain ⟨⟨a1, a2, a3, a4, a5, a6, a7⟩, -, -, ⟨c1, c2, c3, c4, c5, c6, c7, c8⟩, -⟩ := hA.2.2 b t v1
  -- coins of the table are worth what they are worth
  have cV : ∀ {N cs uO uH uN ch uI}, rTab rw hgt Vd oG N cs uO uH uN ch uI → ∀ x, x ∈ liv N uI cs → cnV rw x ≤ 2100000000000000 := fun hT x hx => by
    obtain ⟨w1, w2⟩ := spC_V hT hx
    obtain ⟨-, -, ⟨-, -, -, -, b5⟩, -⟩ := hA.2.2 _ _ w1
    exact (b5 _ (gD_mem d3 _ w2)).2.2.2
  have sB' : ∀ {N cs uO uH uN ch uI}, rTab rw hgt Vd oG N cs uO uH uN ch uI → liv N uI cs = U → ∀ x, x ∈ spC rw b t U → cnV rw x ≤ 2100000000000000 := fun hT hl x hx => by
    obtain ⟨k, hk, e⟩ := List.mem_iff_getElem.mp hx
    have hk' : k < (txO rw b t).2.1.length := by rw [spC_len] at hk; exact hk
    obtain ⟨c', -, e2, e3⟩ := spC_mem hno hk'
    rw [gD_e _ e_C hk, e] at e2
    rw [e2]
    exact cV hT c' (by rw [hl]; exact e3)
  intro r
  induction r with
  | zero =>
    intro k m cs z u1 uO uH uN ch uI s1 s2 s3 s4 s5 s6 s7 s8 s9 s10 s11 s12 s13 s14 s15 s16 s17 s18 s19 s20 s21 s22 s23 s24 s25 th sz tk mg id hk hm hj hS
    obtain ⟨m, rfl⟩ : ∃ q, m = q + 1 := ⟨m - 1, by omega⟩
    have ek : k = (txO rw b t).2.1.length := by omega
    show ok (xb_M_valid_203 fu st gh bt bts tA tZ tI tN tNs tO tOs iA iS iL iQ oV oS oL oT one tC K (x_M_valid_203 fu st gh bt bts tA tZ tI tN tNs tO tOs iA iS iL iQ oV oS oL oT one tC K m) (nI b) (nI (hgt b)) (lN fee) x5 (nI (tG b t)) (lN (sumL (cnV rw) ((spC rw b t U).take k))) (lN (ouS rw b t)) (nI (iG b t + (txO rw b t).2.1.length)) (nI (iG b t + k)) z u1 uO uH uN ch uI s1 s2 s3 s4 s5 s6 s7 s8 s9 s10 s11 s12 s13 s14 s15 s16 s17 s18 s19 s20 s21 s22 s23 s24 s25 th sz tk mg id) _
    unfold xb_M_valid_203
    have hS' := hS
    obtain ⟨q1, q2, q3, q4, q5, q6, q7⟩ := hS
    have sle := sumL_le _ (sB' q3 q4)
    rw [spC_len] at sle
    have et : (spC rw b t U).take k = spC rw b t U := by rw [ek, ← spC_len (U := U), List.take_length]
    have nun : ¬ (spC rw b t U).any (unR hgt b) = true := fun h => by
      obtain ⟨x, hx, hxu⟩ := List.any_eq_true.mp h
      obtain ⟨j, hj', e⟩ := List.mem_iff_getElem.mp hx
      have := hj j (by rw [spC_len] at hj'; omega)
      rw [gD_e _ e_C hj', e, hxu] at this
      exact absurd this (by decide)
    rw [et]
    refine ok_t ((nI_leI (by omega) (by omega)).mpr (by omega)) ?_
    by_cases cc : ouS rw b t ≤ sumL (cnV rw) (spC rw b t U)
    · have e0 := stp0_0 (hgt := hgt) ht0 hno nun (by omega)
      refine ok_t ((lg_n _ _ (by omega) (by omega)).mpr cc) (ok_gd (inb_nI a1 (by decide)) ?_)
      rw [nI_clamp (n := tG b t) (by omega), c4, show nI (iG b t) = nI (iG b t + 0) from rfl]
      refine ok_bnd (l_va315 hc fu hfu st gh bt bts tA tZ tI tN tNs tO tOs iA iS iL iQ oV oS oL oT one tC hsg hE' K ht ht0 hU (fun k hk h => hno (spn_no.mpr ⟨k, hk, h⟩)) hu cc (by rw [e0]) hNo (fun hsc cs z u1 uO uH uN ch uI s1 s2 s3 s4 s5 s6 s7 s8 s9 s10 s11 s12 s13 s14 s15 s16 s17 s18 s19 s20 s21 s22 s23 s24 s25 th sz tk mg id hv => ?_) (txO rw b t).2.1.length 0 fu cs z u1 uO uH uN ch uI s1 s2 s3 s4 s5 s6 s7 s8 s9 s10 s11 s12 s13 s14 s15 s16 s17 s18 s19 s20 s21 s22 s23 s24 s25 th sz tk mg id (Nat.zero_add _) (by omega) (fun j hj => absurd hj (Nat.not_lt_zero _)) hS')
      have := hK ⟨Or.inr ⟨Or.inr (Or.inr hsc), rfl⟩, by rw [e0], by rw [e0]; show sumL (cnV rw) (spC rw b t U) - ouS rw b t ≤ _; omega⟩ cs z u1 uO uH uN ch uI s1 s2 s3 s4 s5 s6 s7 s8 s9 s10 s11 s12 s13 s14 s15 s16 s17 s18 s19 s20 s21 s22 s23 s24 s25 th sz tk mg id
      rw [e0] at this
      exact this hv
    · have e0 := stp0_12 (hgt := hgt) ht0 hno nun (by omega)
      refine ok_f (fun e => cc ((lg_n _ _ (by omega) (by omega)).mp e)) (ok_some ?_)
      exact vaQ_f (s := stp0 rw hgt b t U) (v := 12) (Or.inr ⟨Or.inl (by rw [e0]; show (12 : Nat) ≠ 0; decide), rfl⟩) (by rw [e0]) (by decide) q5 q6 q7
  | succ r ih =>
    intro k m cs z u1 uO uH uN ch uI s1 s2 s3 s4 s5 s6 s7 s8 s9 s10 s11 s12 s13 s14 s15 s16 s17 s18 s19 s20 s21 s22 s23 s24 s25 th sz tk mg id hk hm hj hS
    obtain ⟨m, rfl⟩ : ∃ q, m = q + 1 := ⟨m - 1, by omega⟩
    have hkl : k < (txO rw b t).2.1.length := by omega
    show ok (xb_M_valid_203 fu st gh bt bts tA tZ tI tN tNs tO tOs iA iS iL iQ oV oS oL oT one tC K (x_M_valid_203 fu st gh bt bts tA tZ tI tN tNs tO tOs iA iS iL iQ oV oS oL oT one tC K m) (nI b) (nI (hgt b)) (lN fee) x5 (nI (tG b t)) (lN (sumL (cnV rw) ((spC rw b t U).take k))) (lN (ouS rw b t)) (nI (iG b t + (txO rw b t).2.1.length)) (nI (iG b t + k)) z u1 uO uH uN ch uI s1 s2 s3 s4 s5 s6 s7 s8 s9 s10 s11 s12 s13 s14 s15 s16 s17 s18 s19 s20 s21 s22 s23 s24 s25 th sz tk mg id) _
    unfold xb_M_valid_203
    have hS' := hS
    obtain ⟨q1, q2, q3, q4, q5, q6, q7⟩ := hS
    refine ok_f (fun e => by have := (nI_leI (by omega) (by omega)).mp e; omega) ?_
    refine l_vin fu (by omega) z st tA tZ tI tN tNs tO tOs iA iS iL iQ oS oL oT one tC hA (by omega) q3 v1 hkl _ _ (fun e => absurd (spn_no.mpr ⟨k, hkl, by rw [← q4]; exact e⟩) hno) (fun e e1 e2 e3 e4 => ok_gd (inb_nI (by omega) (by decide)) ?_)
    obtain ⟨⟨w1, w1'⟩, w2, w3, w4⟩ := q3.1 e e1
    have hcn : (spC rw b t U).getD k e_C = cs e := by rw [spC_g hkl, ← q4, e4]; rfl
    obtain ⟨-, -, -, -, -, oo⟩ := hA.2.2 _ _ w1
    have hhc := hh _ _ w1
    obtain ⟨⟨-, -, aa3, -⟩, -⟩ := hA.2.2 _ _ w1
    rw [nI_clamp (n := e) (by omega), w3]
    refine ok_bnd ?_
    have NX : unR hgt b (cs e) = false → ok (xb_M_valid_272 fu st gh bt bts tA tZ tI tN tNs tO tOs iA iS iL iQ oV oS oL oT one tC K (x_M_valid_203 fu st gh bt bts tA tZ tI tN tNs tO tOs iA iS iL iQ oV oS oL oT one tC K m) (nI b) (nI (hgt b)) (lN fee) x5 (nI (tG b t)) (lN (sumL (cnV rw) ((spC rw b t U).take k))) (lN (ouS rw b t)) (nI (iG b t + (txO rw b t).2.1.length)) (nI (iG b t + k)) (nI e) z u1 uO uH uN ch uI s1 s2 s3 s4 s5 s6 s7 s8 s9 s10 s11 s12 s13 s14 s15 s16 s17 s18 s19 s20 s21 s22 s23 s24 s25 th sz tk mg id) (va38 sgB rw hgt Vd iG oG ev b z0 (vlW sgB rw hgt b (n + 1) t U fee)) := fun hun => by
      unfold xb_M_valid_272
      refine ok_gd (inb_nI (by omega) (by decide)) ?_
      rw [nI_clamp (n := e) (by omega), w2]
      refine ok_bnd (ok_gd (inb_nI (by omega) (by decide)) ?_)
      rw [nI_clamp (n := oG (cs e).1 (cs e).2.1 + (cs e).2.2) (by omega), (oo _ w1').1]
      refine ok_bnd (ok_bn (e' := lN (sumL (cnV rw) ((spC rw b t U).take (k + 1)))) ?_ (ok_bn (nI_1 _) ?_))
      · rw [lN_a, sumL_tk (cnV rw) e_C _ (by rw [spC_len]; exact hkl), hcn]
        rfl
      · refine ih (k + 1) m cs z u1 uO uH uN ch uI s1 s2 s3 s4 s5 s6 s7 s8 s9 s10 s11 s12 s13 s14 s15 s16 s17 s18 s19 s20 s21 s22 s23 s24 s25 th sz tk mg id (by omega) (by omega) (fun j hjk => ?_) hS'
        by_cases ej : j = k
        · rw [ej, hcn]; exact hun
        · exact hj j (by omega)
    have hb60 := p5
    by_cases ct : (cs e).2.1 = 0
    · have eH : cnH hgt (cs e) = (-1 : Int32) - nI (hgt (cs e).1) := by unfold cnH; rw [if_pos ct]
      rw [eH]
      refine ok_f (i_neg hhc) (ok_gd (inb_nI (by omega) (by decide)) (ok_bnd (ok_bnd ?_)))
      by_cases cr : hgt (cs e).1 + 5 ≤ hgt b
      · exact ok_t ((i_d5 p5 hhc).mpr cr) (NX (decide_eq_false fun h => by have := h.2; omega))
      · refine ok_f (fun h => cr ((i_d5 p5 hhc).mp h)) (ok_some ?_)
        have hany : (spC rw b t U).any (unR hgt b) = true := List.any_eq_true.mpr ⟨cs e, by rw [← hcn]; exact gD_mem e_C _ (by rw [spC_len]; exact hkl), decide_eq_true ⟨ct, by omega⟩⟩
        have e0 := stp0_11 (hgt := hgt) ht0 hno hany
        exact vaQ_f (s := stp0 rw hgt b t U) (v := 11) (Or.inr ⟨Or.inl (by rw [e0]; show (11 : Nat) ≠ 0; decide), rfl⟩) (by rw [e0]) (by decide) q5 q6 q7
    · have eH : cnH hgt (cs e) = nI (hgt (cs e).1) := by unfold cnH; rw [if_neg ct]
      rw [eH]
      exact ok_t ((nI_leI (a := 0) (by omega) (by omega)).mpr (by omega)) (NX (decide_eq_false fun h => ct h.1))
set_option maxHeartbeats 2000000 in
/-- all of it is there -/
theorem l_va143 {F : Type} [Lean.Grind.Field F] [DecidableEq F] {c : Int → F} (hc : cH pP c) (fu : Nat) (hfu : 2 ^ 257 ≤ fu) (st gh bt bts tA tZ tI tN tNs tO tOs iA iS iL iQ : Nat → Int32) (oV : Nat → Int64) (oS oL oT one tC : Nat → Int32) {sgB : Nat → List Int32 → List Int32 → Bool} {rw : Nat → List Int32} {hgt : Nat → Nat} {Vd : Nat → Nat → Prop} {sB : Nat → Nat} {tG iG oG : Nat → Nat → Nat} {ev : Nat → Nat → List Cn → Prop} {b : Nat} (hsg : ∀ e K G, sgB e K G = true ↔ sgO c e K G) (hE : vEn sgB rw hgt Vd sB tG iG oG ev st gh bt bts tA tZ tI tN tNs tO tOs iA iS iL iQ oV oS oL oT one tC b) (K : K20) {z0 : Nat → Int32} {t n fee : Nat} {x5 : Int64} (ht : t < (TLb rw b).length) (ht0 : t ≠ 0) {U : List Cn} (hU : ev b t U) (hu : kyU rw U) (hou : ouS rw b t < 2 ^ 60) {N : Nat} (hNo : N ≤ oG b t) (hK : (stp sgB rw hgt b t U (stp0 rw hgt b t U) ∧ (stp0 rw hgt b t U).1 = 0 ∧ (stp0 rw hgt b t U).2.2 ≤ 2100000000000000 * (txO rw b t).2.1.length) → ∀ cs z u1 uO uH uN ch uI s1 s2 s3 s4 s5 s6 s7 s8 s9 s10 s11 s12 s13 s14 s15 s16 s17 s18 s19 s20 s21 s22 s23 s24 s25 th sz tk mg id, vSt sgB rw hgt Vd iG oG ev z0 (oG b (t + 1)) (stp0 rw hgt b t U).2.1 (N + (txO rw b t).2.2.2.1.length) cs z u1 uO uH uN ch uI th → ok (K (nI b) (nI (hgt b)) (lN (fee + (stp0 rw hgt b t U).2.2)) x5 (nI (tG b t + 1)) z u1 uO uH uN ch uI s1 s2 s3 s4 s5 s6 s7 s8 s9 s10 s11 s12 s13 s14 s15 s16 s17 s18 s19 s20 s21 s22 s23 s24 s25 th sz tk mg id) (va38 sgB rw hgt Vd iG oG ev b z0 (vlW sgB rw hgt b (n + 1) t U fee))) : ∀ r k m cs z u1 uO uH uN ch uI s1 s2 s3 s4 s5 s6 s7 s8 s9 s10 s11 s12 s13 s14 s15 s16 s17 s18 s19 s20 s21 s22 s23 s24 s25 th sz tk mg id, k + r = (txO rw b t).2.1.length → r < m → (∀ j, j < k → fnd rw U (inK rw b ((txO rw b t).2.1.getD j d3)) ≠ none) → vSt sgB rw hgt Vd iG oG ev z0 (oG b t) U N cs z u1 uO uH uN ch uI th → ok (x_M_valid_143 fu st gh bt bts tA tZ tI tN tNs tO tOs iA iS iL iQ oV oS oL oT one tC K m (nI b) (nI (hgt b)) (lN fee) x5 (nI (tG b t)) (0 : Int64) (lN (ouS rw b t)) (nI (iG b t + (txO rw b t).2.1.length)) (nI (iG b t + k)) z u1 uO uH uN ch uI s1 s2 s3 s4 s5 s6 s7 s8 s9 s10 s11 s12 s13 s14 s15 s16 s17 s18 s19 s20 s21 s22 s23 s24 s25 th sz tk mg id) (va38 sgB rw hgt Vd iG oG ev b z0 (vlW sgB rw hgt b (n + 1) t U fee)) := by
  have hfu2 : 40000 ≤ fu := Nat.le_trans (by decide) hfu
  have hE' := hE
  obtain ⟨hA, hI, hev, hst, hh, ⟨p1, p2, p3, p4, p5⟩, hTt, p6, p7, p8⟩ := hE
  obtain ⟨v1, v2, v3, v4, v5⟩ := hTt t ht
  obtain ⟨⟨a1, a2, a3, a4, a5, a6, a7⟩, -, -, ⟨c1, c2, c3, c4, c5, c6, c7, c8⟩, -⟩ := hA.2.2 b t v1
  intro r
  induction r with
  | zero =>
    intro k m cs z u1 uO uH uN ch uI s1 s2 s3 s4 s5 s6 s7 s8 s9 s10 s11 s12 s13 s14 s15 s16 s17 s18 s19 s20 s21 s22 s23 s24 s25 th sz tk mg id hk hm hj hS
    obtain ⟨m, rfl⟩ : ∃ q, m = q + 1 := ⟨m - 1, by omega⟩
    show ok (xb_M_valid_143 fu st gh bt bts tA tZ tI tN tNs tO tOs iA iS iL iQ oV oS oL oT one tC K (x_M_valid_143 fu st gh bt bts tA tZ tI tN tNs tO tOs iA iS iL iQ oV oS oL oT one tC K m) (nI b) (nI (hgt b)) (lN fee) x5 (nI (tG b t)) (0 : Int64) (lN (ouS rw b t)) (nI (iG b t + (txO rw b t).2.1.length)) (nI (iG b t + k)) z u1 uO uH uN ch uI s1 s2 s3 s4 s5 s6 s7 s8 s9 s10 s11 s12 s13 s14 s15 s16 s17 s18 s19 s20 s21 s22 s23 s24 s25 th sz tk mg id) _
    unfold xb_M_valid_143
    have hno : none ∉ spn rw b t U := fun h => by
      obtain ⟨j, hj', e⟩ := spn_no.mp h
      exact hj j (by omega) e
    refine ok_t ((nI_leI (by omega) (by omega)).mpr (by omega)) (ok_gd (inb_nI a1 (by decide)) ?_)
    rw [nI_clamp (n := tG b t) (by omega), c4, show nI (iG b t) = nI (iG b t + 0) from rfl, show (0 : Int64) = lN (sumL (cnV rw) ((spC rw b t U).take 0)) from by rw [List.take_zero]; rfl]
    exact ok_bnd (l_va203 hc fu hfu st gh bt bts tA tZ tI tN tNs tO tOs iA iS iL iQ oV oS oL oT one tC hsg hE' K ht ht0 hU hno hu hou hNo hK (txO rw b t).2.1.length 0 fu cs z u1 uO uH uN ch uI s1 s2 s3 s4 s5 s6 s7 s8 s9 s10 s11 s12 s13 s14 s15 s16 s17 s18 s19 s20 s21 s22 s23 s24 s25 th sz tk mg id (Nat.zero_add _) (by omega) (fun j hj => absurd hj (Nat.not_lt_zero _)) hS)
  | succ r ih =>
    intro k m cs z u1 uO uH uN ch uI s1 s2 s3 s4 s5 s6 s7 s8 s9 s10 s11 s12 s13 s14 s15 s16 s17 s18 s19 s20 s21 s22 s23 s24 s25 th sz tk mg id hk hm hj hS
    obtain ⟨m, rfl⟩ : ∃ q, m = q + 1 := ⟨m - 1, by omega⟩
    have hkl : k < (txO rw b t).2.1.length := by omega
    show ok (xb_M_valid_143 fu st gh bt bts tA tZ tI tN tNs tO tOs iA iS iL iQ oV oS oL oT one tC K (x_M_valid_143 fu st gh bt bts tA tZ tI tN tNs tO tOs iA iS iL iQ oV oS oL oT one tC K m) (nI b) (nI (hgt b)) (lN fee) x5 (nI (tG b t)) (0 : Int64) (lN (ouS rw b t)) (nI (iG b t + (txO rw b t).2.1.length)) (nI (iG b t + k)) z u1 uO uH uN ch uI s1 s2 s3 s4 s5 s6 s7 s8 s9 s10 s11 s12 s13 s14 s15 s16 s17 s18 s19 s20 s21 s22 s23 s24 s25 th sz tk mg id) _
    unfold xb_M_valid_143
    have hS' := hS
    obtain ⟨q1, q2, q3, q4, q5, q6, q7⟩ := hS
    refine ok_f (fun e => by have := (nI_leI (by omega) (by omega)).mp e; omega) ?_
    refine l_vin fu (by omega) z st tA tZ tI tN tNs tO tOs iA iS iL iQ oS oL oT one tC hA (by omega) q3 v1 hkl _ _ (fun e => ?_) (fun e e1 e2 e3 e4 => ?_)
    · rw [q4] at e
      have e0 := stp0_10 (hgt := hgt) ht0 (spn_no.mpr ⟨k, hkl, e⟩)
      refine ok_f (by decide) (ok_some (vaQ_f (s := stp0 rw hgt b t U) (v := 10) (Or.inr ⟨Or.inl (by rw [e0]; show (10 : Nat) ≠ 0; decide), rfl⟩) (by rw [e0]) (by decide) q5 q6 q7))
    · rw [q4] at e4
      refine ok_t ((nI_leI (a := 0) (by omega) (by omega)).mpr (by omega)) (ok_bn (nI_1 _) (ih (k + 1) m cs z u1 uO uH uN ch uI s1 s2 s3 s4 s5 s6 s7 s8 s9 s10 s11 s12 s13 s14 s15 s16 s17 s18 s19 s20 s21 s22 s23 s24 s25 th sz tk mg id (by omega) (by omega) (fun j hjk => ?_) hS'))
      by_cases ej : j = k
      · rw [ej, e4]; simp
      · exact hj j (by omega)
