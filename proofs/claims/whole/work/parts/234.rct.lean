-- count and digest of the reference
set_option maxHeartbeats 1000000 in
theorem liv_s (N : Nat) (uI : Nat → Int32) (cs : Nat → Cn) : liv (N + 1) uI cs = if uI N = 1 then liv N uI cs ++ [cs N] else liv N uI cs := by
  unfold liv
  rw [List.range_succ, List.filter_append, List.map_append]
  by_cases q : uI N = 1
  · rw [if_pos q]
    show _ ++ List.map cs (List.filter (fun e => decide (uI e = 1)) [N]) = _
    rw [List.filter_cons_of_pos (by show decide (uI N = 1) = true; exact decide_eq_true q)]
    rfl
  · rw [if_neg q]
    show _ ++ List.map cs (List.filter (fun e => decide (uI e = 1)) [N]) = _
    rw [List.filter_cons_of_neg (by show ¬ decide (uI N = 1) = true; rw [decide_eq_false q]; decide)]
    show _ ++ [] = _
    rw [List.append_nil]
def nBad (bad : Nat → Bool) : Nat → Nat
  | 0 => 0
  | n + 1 => nBad bad n + if bad n = true then 1 else 0
set_option maxHeartbeats 1000000 in
theorem l_ct75 (fu : Nat) (gw : Nat → Int32) {gbd : Nat → Int32} (gv : Nat → Int64) (gu gi : Nat → Int32) {nb : Nat} (hnb : nb ≤ 200) {bad : Nat → Bool} (hB : bdR nb bad gbd) {z : Nat → Int32} (h3 : z 3 = nI nb) : ∀ r k n, k + r = nb → r < n → ok (x_M_count2_75 fu gw gbd gv gu gi n (lN (nBad bad k)) (nI k) z) (fun t => t.1 = lN (nBad bad nb) ∧ t.2 = z)
  | 0, k, n + 1, hk, _ => by
    show ok (xb_M_count2_75 fu gw gbd gv gu gi (x_M_count2_75 fu gw gbd gv gu gi n) (lN (nBad bad k)) (nI k) z) _
    unfold xb_M_count2_75
    refine ok_t (by rw [h3]; exact (nI_leI (a := nb) (b := k) (by omega) (by omega)).mpr (by omega)) (ok_some ⟨?_, rfl⟩)
    rw [show k = nb from by omega]
  | r + 1, k, n + 1, hk, hn => by
    show ok (xb_M_count2_75 fu gw gbd gv gu gi (x_M_count2_75 fu gw gbd gv gu gi n) (lN (nBad bad k)) (nI k) z) _
    unfold xb_M_count2_75
    refine ok_f (by rw [h3]; exact fun g => absurd ((nI_leI (a := nb) (b := k) (by omega) (by omega)).mp g) (by omega)) (ok_gd (inb_nI (by omega) (by decide)) ?_)
    rw [nI_clamp (n := k) (by omega)]
    refine ok_bnd ?_
    have hb := hB k (by omega)
    have ih := l_ct75 fu gw gv gu gi hnb hB h3 r (k + 1) n (by omega) (by omega)
    have e : nBad bad (k + 1) = nBad bad k + if bad k = true then 1 else 0 := rfl
    by_cases q : bad k = true
    · rw [if_pos q] at hb e
      refine ok_f (by rw [hb]; decide) (ok_bn (e' := lN (nBad bad k + 1)) (lN_a _ 1) ?_)
      unfold xb_M_count2_98
      refine ok_bn (e' := nI (k + 1)) (nI_add k 1) ?_
      rw [e] at ih
      exact ih
    · rw [if_neg q] at hb e
      refine ok_t hb ?_
      unfold xb_M_count2_98
      refine ok_bn (e' := nI (k + 1)) (nI_add k 1) ?_
      rw [e] at ih
      exact ih
set_option maxHeartbeats 1000000 in
theorem l_ct109 (fu : Nat) (gw gbd : Nat → Int32) {nb : Nat} {rw : Nat → List Int32} {hgt : Nat → Nat} (st tA tZ tI tN tNs tO tOs iA iS iLn iQ oS oL oT one tC : Nat → Int32) {oV : Nat → Int64} {uO uH uN ch uI : Nat → Int32} (hA : rAl rw (Vdr rw nb) (sBr rw) (tGr rw) (iGr rw) (oGr rw) st tA tZ tI tN tNs tO tOs iA iS iLn iQ oS oL oT one tC oV) {N : Nat} {cs : Nat → Cn} (hN : N ≤ 11600) (hT : rTab rw hgt (Vdr rw nb) (oGr rw) N cs uO uH uN ch uI) {z : Nat → Int32} (h19 : z 19 = nI N) {x1 : Int32} {f : Cn → Nat} (hf : (x1 = 2 ∧ f = fun _ => 1) ∨ (x1 = 3 ∧ f = cnV rw)) : ∀ r k n, k + r = N → r < n → ok (x_M_count2_109 fu gw gbd oV uO uI n x1 (lN (sumL f (liv k uI cs))) (nI k) z) (fun t => t.1 = lN (sumL f (liv N uI cs)) ∧ t.2 = z)
  | 0, k, n + 1, hk, _ => by
    show ok (xb_M_count2_109 fu gw gbd oV uO uI (x_M_count2_109 fu gw gbd oV uO uI n) x1 (lN (sumL f (liv k uI cs))) (nI k) z) _
    unfold xb_M_count2_109
    refine ok_t (by rw [h19]; exact (nI_leI (a := N) (b := k) (by omega) (by omega)).mpr (by omega)) (ok_some ⟨?_, rfl⟩)
    rw [show k = N from by omega]
  | r + 1, k, n + 1, hk, hn => by
    show ok (xb_M_count2_109 fu gw gbd oV uO uI (x_M_count2_109 fu gw gbd oV uO uI n) x1 (lN (sumL f (liv k uI cs))) (nI k) z) _
    unfold xb_M_count2_109
    refine ok_f (by rw [h19]; exact fun g => absurd ((nI_leI (a := N) (b := k) (by omega) (by omega)).mp g) (by omega)) (ok_gd (inb_nI (by omega) (by decide)) ?_)
    rw [nI_clamp (n := k) (by omega)]
    refine ok_bnd ?_
    have ih := l_ct109 fu gw gbd st tA tZ tI tN tNs tO tOs iA iS iLn iQ oS oL oT one tC hA hN hT h19 hf r (k + 1) n (by omega) (by omega)
    rw [liv_s] at ih
    obtain ⟨⟨a1, a2⟩, a3, a4, a5⟩ := hT.1 k (by omega)
    rcases a5 with a5 | a5
    · rw [if_neg (by rw [a5]; decide)] at ih
      refine ok_t a5 ?_
      unfold xb_M_count2_152
      exact ok_bn (e' := nI (k + 1)) (nI_add k 1) ih
    · rw [if_pos a5, sumL_ap] at ih
      replace ih : ok (x_M_count2_109 fu gw gbd oV uO uI n x1 (lN (sumL f (liv k uI cs) + (f (cs k) + 0))) (nI (k + 1)) z) (fun t => t.1 = lN (sumL f (liv N uI cs)) ∧ t.2 = z) := ih
      rw [Nat.add_zero] at ih
      refine ok_f (by rw [a5]; decide) ?_
      rcases hf with ⟨e1, e2⟩ | ⟨e1, e2⟩
      · refine ok_t e1 ?_
        unfold xb_M_count2_150 xb_M_count2_152
        refine ok_bn (e' := lN (sumL f (liv k uI cs) + 1)) (lN_a _ 1) (ok_bn (e' := nI (k + 1)) (nI_add k 1) ?_)
        have e3 : f (cs k) = 1 := by rw [e2]
        rw [e3] at ih
        exact ih
      · refine ok_f (by rw [e1]; decide) (ok_gd (inb_nI (by omega) (by decide)) ?_)
        obtain ⟨⟨b1, b2, b3⟩, b4, b5, b6, b7⟩ := rAl_cn hA a1 a2
        rw [a3]
        refine ok_bnd (ok_gd (inb_nI b1 (by decide)) ?_)
        rw [nI_clamp (n := oGr rw (cs k).1 (cs k).2.1 + (cs k).2.2) (by omega), b4]
        refine ok_bnd ?_
        unfold xb_M_count2_150 xb_M_count2_152
        refine ok_bn (e' := lN (sumL f (liv k uI cs) + cnV rw (cs k))) (lN_a _ _) (ok_bn (e' := nI (k + 1)) (nI_add k 1) ?_)
        have e3 : f (cs k) = cnV rw (cs k) := by rw [e2]
        rw [e3] at ih
        exact ih
/-- what count answers -/
def ctA (par : Nat → Nat) (bit : Nat → Int32) (bad : Nat → Bool) (rw : Nat → List Int32) (nb tip : Nat) (U : List Cn) (R : List Int32) (k : Nat) : Int64 := if k = 0 then lN (nb - 1) else if k = 1 then lN (nBad bad nb) else if k = 2 then lN (sumL (fun _ => 1) U) else if k = 3 then lN (sumL (cnV rw) U) else if k = 4 then lN (wrk par bit tip) else lN R.length
set_option maxHeartbeats 1000000 in
theorem lo2 {u : Nat → Int32} {t : Nat} (h : Wa u t < 2 ^ 62) : ((u (8 * t + 1)).toInt64 <<< ((32 : Int32).toInt64 &&& 63)) ||| ((u (8 * t)).toInt64 &&& (4294967295 : Int64)) = lN (Wa u t) := by
  have e : Wa u t = U (u (8 * t)) + U (u (8 * t + 1)) * 2 ^ 32 := by
    have h8 : Wa u t = V (fun j => u (8 * t + j)) 2 + 2 ^ (32 * 2) * V (fun j => u (8 * t + (2 + j))) 6 := V_add (fun j => u (8 * t + j)) 2 6
    have h0 : V (fun j => u (8 * t + (2 + j))) 6 = 0 := by
      rcases Nat.eq_zero_or_pos (V (fun j => u (8 * t + (2 + j))) 6) with q | q
      · exact q
      · exfalso
        rw [h8] at h
        generalize V (fun j => u (8 * t + (2 + j))) 6 = A at *
        generalize V (fun j => u (8 * t + j)) 2 = B at *
        omega
    rw [h8, h0, Nat.mul_zero, Nat.add_zero]
    show (0 + U (u (8 * t + 0)) * 2 ^ (32 * 0)) + U (u (8 * t + 1)) * 2 ^ (32 * 1) = _
    rw [Nat.add_zero, Nat.zero_add, Nat.mul_zero, Nat.pow_zero, Nat.mul_one, Nat.mul_one]
  have l1 := U_lt (u (8 * t))
  have hU1 : U (u (8 * t + 1)) < 2 ^ 31 := by omega
  rw [l_mask, show u (8 * t + 1) = nI (U (u (8 * t + 1))) from (nI_U _).symm, iL hU1]
  rw [lN_or2 hU1 l1, e, Nat.add_comm]
set_option maxHeartbeats 1000000 in
theorem v_M_count2 (fu : Nat) (hfu : 12000 ≤ fu) (a : Int32) {z row : Nat → Int32} {R : List Int32} (h : rRow z row R) {nb : Nat} {par hgt : Nat → Nat} {bit : Nat → Int32} {bad : Nat → Bool} {rw : Nat → List Int32} {tip : Nat} {gw gbd : Nat → Int32} (st tA tZ tI tN tNs tO tOs iA iS iLn iQ oS oL oT one tC : Nat → Int32) {oV : Nat → Int64} {uO uH uN ch uI : Nat → Int32} (hA : rAl rw (Vdr rw nb) (sBr rw) (tGr rw) (iGr rw) (oGr rw) st tA tZ tI tN tNs tO tOs iA iS iLn iQ oS oL oT one tC oV) {N : Nat} {cs : Nat → Cn} (hN : N ≤ 11600) (hT : rTab rw hgt (Vdr rw nb) (oGr rw) N cs uO uH uN ch uI) (hnb : 1 ≤ nb ∧ nb ≤ 200) (ht : tip < nb) (hB : bdR nb bad gbd) (hb0 : bad 0 = false) (hW : ∀ k, k < nb → Wa gw k = wrk par bit k) (hW2 : ∀ k, k < nb → wrk par bit k < 2 ^ 40) (h3 : z 3 = nI nb) (h4 : z 4 = nI tip) (h19 : z 19 = nI N) : ok (x_M_count2 fu gw gbd oV uO uI a z) (fun t => z02 z t.2 ∧ rRow t.2 row R ∧ ((∃ k, k < 6 ∧ a = nI k ∧ t.2 2 = 0 ∧ t.1 = ctA par bit bad rw nb tip (liv N uI cs) R k) ∨ ((∀ k, k < 6 → a ≠ nI k) ∧ t.2 2 = 1))) := by
  have hl := h.2.1
  have wrong : (∀ k, k < 6 → a ≠ nI k) → ok (xb_M_count2_10 fu gw gbd oV uO uI a z) (fun t => z02 z t.2 ∧ rRow t.2 row R ∧ ((∃ k, k < 6 ∧ a = nI k ∧ t.2 2 = 0 ∧ t.1 = ctA par bit bad rw nb tip (liv N uI cs) R k) ∨ ((∀ k, k < 6 → a ≠ nI k) ∧ t.2 2 = 1))) := fun q => by
    unfold xb_M_count2_10 xb_M_count2_15
    exact ok_bnd (ok_f (by rw [pk_us]; decide) (ok_some ⟨z02_2 z 1, rRow_2 h 1, Or.inr ⟨q, (show upd z 2 1 2 = 1 from pk_us)⟩⟩))
  unfold x_M_count2
  rcases pk_ix a (n := 6) (by decide) with q | q | ⟨n, q, rfl⟩
  · exact ok_t q (wrong fun n hn e => by rw [e] at q; exact absurd ((nI_ltI (a := n) (b := 0) (by omega) (by omega)).mp q) (Nat.not_lt_zero _))
  · have q0 : ¬ a < 0 := fun g => by
      have h1 : nI 6 < 0 := Int32.lt_of_le_of_lt q g
      exact absurd h1 (by decide)
    refine ok_f q0 (ok_f (fun g => ?_) (wrong fun n hn e => ?_))
    · have h1 : nI 6 ≤ nI 5 := Int32.le_trans q g
      exact absurd h1 (by decide)
    · rw [e] at q
      exact absurd ((nI_leI (a := 6) (b := n) (by omega) (by omega)).mp q) (by omega)
  refine ok_f (fun g => absurd ((nI_ltI (a := n) (b := 0) (by omega) (by omega)).mp g) (Nat.not_lt_zero _)) (ok_t ((nI_leI (a := n) (b := 5) (by omega) (by omega)).mpr (by omega)) ?_)
  unfold xb_M_count2_15
  refine ok_bnd (ok_t (by rw [pk_us]; decide) ?_)
  have e0 : upd z 2 (0 : Int32) 0 = nI R.length := by rw [pk_un (by decide)]; exact h.1
  have e3 : upd z 2 (0 : Int32) 3 = nI nb := by rw [pk_un (by decide)]; exact h3
  have e4 : upd z 2 (0 : Int32) 4 = nI tip := by rw [pk_un (by decide)]; exact h4
  have e19 : upd z 2 (0 : Int32) 19 = nI N := by rw [pk_un (by decide)]; exact h19
  have R0 : ∀ {y : Int64}, y = ctA par bit bad rw nb tip (liv N uI cs) R n → (fun t : Int64 × (Nat → Int32) => z02 z t.2 ∧ rRow t.2 row R ∧ ((∃ k, k < 6 ∧ nI n = nI k ∧ t.2 2 = 0 ∧ t.1 = ctA par bit bad rw nb tip (liv N uI cs) R k) ∨ ((∀ k, k < 6 → nI n ≠ nI k) ∧ t.2 2 = 1))) (y, upd z 2 0) := fun {_} hy => ⟨z02_2 z 0, rRow_2 h 0, Or.inl ⟨n, q, rfl, (show upd z 2 0 2 = 0 from pk_us), hy⟩⟩
  have ne : ∀ m, m < 6 → n ≠ m → ¬ nI n = nI m := fun m hm hne g => hne ((nI_eq32 (a := n) (b := m) (by omega) (by omega)).mp g)
  by_cases q0 : n = 0
  · subst q0
    refine ok_t rfl (ok_bnd (ok_some (R0 ?_)))
    rw [e3, show nI nb - 1 = nI (nb - 1) from nI_sb (b := 1) hnb.1, iL (by omega)]
    rfl
  refine ok_f (ne 0 (by decide) q0) ?_
  by_cases q1 : n = 1
  · subst q1
    refine ok_t rfl ?_
    have e : nBad bad 1 = 0 := by
      show 0 + (if bad 0 = true then 1 else 0) = 0
      rw [hb0]; rfl
    have := l_ct75 fu gw oV uO uI (nb := nb) hnb.2 hB e3 (nb - 1) 1 fu (by omega) (by omega)
    rw [e] at this
    refine ok_mono this fun t ht' => ?_
    obtain ⟨t1, t2⟩ := t
    obtain ⟨p1, p2⟩ := ht'
    replace p1 : t1 = lN (nBad bad nb) := p1
    replace p2 : t2 = upd z 2 0 := p2
    subst p2
    exact R0 p1
  refine ok_f (ne 1 (by decide) q1) ?_
  by_cases q2 : n = 2
  · subst q2
    refine ok_t rfl ?_
    unfold xb_M_count2_106
    refine ok_mono (l_ct109 fu gw gbd st tA tZ tI tN tNs tO tOs iA iS iLn iQ oS oL oT one tC hA hN hT e19 (Or.inl ⟨rfl, rfl⟩) N 0 fu (Nat.zero_add _) (by omega)) fun t ht' => ?_
    obtain ⟨t1, t2⟩ := t
    obtain ⟨p1, p2⟩ := ht'
    replace p2 : t2 = upd z 2 0 := p2
    subst p2
    exact R0 p1
  refine ok_f (ne 2 (by decide) q2) ?_
  by_cases q3 : n = 3
  · subst q3
    refine ok_t rfl ?_
    unfold xb_M_count2_106
    refine ok_mono (l_ct109 fu gw gbd st tA tZ tI tN tNs tO tOs iA iS iLn iQ oS oL oT one tC hA hN hT e19 (Or.inr ⟨rfl, rfl⟩) N 0 fu (Nat.zero_add _) (by omega)) fun t ht' => ?_
    obtain ⟨t1, t2⟩ := t
    obtain ⟨p1, p2⟩ := ht'
    replace p2 : t2 = upd z 2 0 := p2
    subst p2
    exact R0 p1
  refine ok_f (ne 3 (by decide) q3) ?_
  by_cases q4 : n = 4
  · subst q4
    refine ok_t rfl ?_
    rw [e4]
    refine ok_bn (e' := nI (8 * tip)) (pk_mul 8 tip) (ok_bn (e' := nI (8 * tip + 1)) (nI_add _ 1) (ok_gd (inb_nI (by omega) (by decide)) ?_))
    rw [nI_clamp (n := 8 * tip + 1) (by omega)]
    refine ok_bnd (ok_bnd (ok_bnd (ok_bn (e' := nI (8 * tip)) (pk_mul 8 tip) (ok_gd (inb_nI (by omega) (by decide)) ?_))))
    rw [nI_clamp (n := 8 * tip) (by omega)]
    refine ok_bnd (ok_bnd (ok_bnd (ok_some (R0 ?_))))
    have w := hW2 tip ht
    rw [← hW tip ht] at w
    rw [lo2 (by omega), hW tip ht]
    rfl
  refine ok_f (ne 4 (by decide) q4) ?_
  have q5 : n = 5 := by omega
  subst q5
  refine ok_bnd (ok_some (R0 ?_))
  rw [e0, iL (by omega)]
  rfl
def dgA (rw : Nat → List Int32) (c : Cn) : Int64 := 31 * (31 * (nI (leP (idT rw c.1 c.2.1) 0 4)).toInt64 + lN c.2.2) + lN (cnV rw c)
def dgC (rw : Nat → List Int32) (c : Cn) : Int64 := dgA rw c * dgA rw c + dgA rw c
def dgS (rw : Nat → List Int32) (U : List Cn) : Int64 := U.foldl (fun h c => h + dgC rw c) 0
set_option maxHeartbeats 1000000 in
theorem l_dg9 (fu : Nat) {nb : Nat} {rw : Nat → List Int32} {hgt : Nat → Nat} (st tA tZ tI tN tNs tO tOs iA iS iLn iQ oS oL oT one tC : Nat → Int32) {oV : Nat → Int64} {uO uH uN ch uI : Nat → Int32} (hA : rAl rw (Vdr rw nb) (sBr rw) (tGr rw) (iGr rw) (oGr rw) st tA tZ tI tN tNs tO tOs iA iS iLn iQ oS oL oT one tC oV) {N : Nat} {cs : Nat → Cn} (hN : N ≤ 11600) (hT : rTab rw hgt (Vdr rw nb) (oGr rw) N cs uO uH uN ch uI) {z : Nat → Int32} (h19 : z 19 = nI N) : ∀ r k n, k + r = N → r < n → ok (x_M_digest_9 fu tI tO oV oT uO uI n (dgS rw (liv k uI cs)) (nI k) z) (fun t => t.1 = dgS rw (liv N uI cs) ∧ t.2 = z)
  | 0, k, n + 1, hk, _ => by
    show ok (xb_M_digest_9 fu tI tO oV oT uO uI (x_M_digest_9 fu tI tO oV oT uO uI n) (dgS rw (liv k uI cs)) (nI k) z) _
    unfold xb_M_digest_9
    refine ok_t (by rw [h19]; exact (nI_leI (a := N) (b := k) (by omega) (by omega)).mpr (by omega)) (ok_some ⟨?_, rfl⟩)
    rw [show k = N from by omega]
  | r + 1, k, n + 1, hk, hn => by
    show ok (xb_M_digest_9 fu tI tO oV oT uO uI (x_M_digest_9 fu tI tO oV oT uO uI n) (dgS rw (liv k uI cs)) (nI k) z) _
    unfold xb_M_digest_9
    refine ok_f (by rw [h19]; exact fun g => absurd ((nI_leI (a := N) (b := k) (by omega) (by omega)).mp g) (by omega)) (ok_gd (inb_nI (by omega) (by decide)) ?_)
    rw [nI_clamp (n := k) (by omega)]
    refine ok_bnd ?_
    have ih := l_dg9 fu st tA tZ tI tN tNs tO tOs iA iS iLn iQ oS oL oT one tC hA hN hT h19 r (k + 1) n (by omega) (by omega)
    rw [liv_s] at ih
    obtain ⟨⟨a1, a2⟩, a3, a4, a5⟩ := hT.1 k (by omega)
    rcases a5 with a5 | a5
    · rw [if_neg (by rw [a5]; decide)] at ih
      refine ok_t a5 ?_
      unfold xb_M_digest_98
      exact ok_bn (e' := nI (k + 1)) (nI_add k 1) ih
    · rw [if_pos a5] at ih
      have eS : dgS rw (liv k uI cs ++ [cs k]) = dgS rw (liv k uI cs) + dgC rw (cs k) := by
        unfold dgS
        rw [List.foldl_append]
        rfl
      rw [eS] at ih
      obtain ⟨⟨b1, b2, b3⟩, b4, b5, b6, b7⟩ := rAl_cn hA a1 a2
      obtain ⟨w, hw⟩ : ∃ w, w = leP (idT rw (cs k).1 (cs k).2.1) 0 4 := ⟨_, rfl⟩
      obtain ⟨v, hv⟩ : ∃ v, v = cnV rw (cs k) := ⟨_, rfl⟩
      have eC : dgC rw (cs k) = (31 * (31 * (nI w).toInt64 + lN (cs k).2.2) + lN v) * (31 * (31 * (nI w).toInt64 + lN (cs k).2.2) + lN v) + (31 * (31 * (nI w).toInt64 + lN (cs k).2.2) + lN v) := by
        unfold dgC dgA
        rw [← hw, ← hv]
      rw [eC] at ih
      rw [← hw] at b6
      rw [← hv] at b4
      clear eC hw hv
      refine ok_f (by rw [a5]; decide) (ok_gd (inb_nI (by omega) (by decide)) ?_)
      rw [a3]
      refine ok_bnd (ok_gd (inb_nI b1 (by decide)) ?_)
      rw [nI_clamp (n := oGr rw (cs k).1 (cs k).2.1 + (cs k).2.2) (by omega), b5]
      refine ok_bnd (ok_bn (e' := nI (8 * tGr rw (cs k).1 (cs k).2.1)) (pk_mul 8 _) (ok_gd (inb_nI (by omega) (by decide)) ?_))
      rw [nI_clamp (n := 8 * tGr rw (cs k).1 (cs k).2.1) (by omega), b6]
      refine ok_bnd (ok_bnd (ok_gd (inb_nI (by omega) (by decide)) ?_))
      rw [nI_clamp (n := tGr rw (cs k).1 (cs k).2.1) (by omega), b7]
      refine ok_bnd ?_
      rw [show nI (oGr rw (cs k).1 (cs k).2.1 + (cs k).2.2) - nI (oGr rw (cs k).1 (cs k).2.1) = nI (cs k).2.2 from by rw [nI_sb (by omega), Nat.add_sub_cancel_left], iL (n := (cs k).2.2) (by omega)]
      refine ok_bnd (ok_gd (inb_nI b1 (by decide)) ?_)
      rw [b4]
      refine ok_bnd (ok_bnd (ok_bnd (ok_bnd ?_)))
      unfold xb_M_digest_98
      exact ok_bn (e' := nI (k + 1)) (nI_add k 1) ih
set_option maxHeartbeats 1000000 in
theorem v_M_digest (fu : Nat) (hfu : 12000 ≤ fu) {z row : Nat → Int32} {R : List Int32} (h : rRow z row R) {nb : Nat} {rw : Nat → List Int32} {hgt : Nat → Nat} (st tA tZ tI tN tNs tO tOs iA iS iLn iQ oS oL oT one tC : Nat → Int32) {oV : Nat → Int64} {uO uH uN ch uI : Nat → Int32} (hA : rAl rw (Vdr rw nb) (sBr rw) (tGr rw) (iGr rw) (oGr rw) st tA tZ tI tN tNs tO tOs iA iS iLn iQ oS oL oT one tC oV) {N : Nat} {cs : Nat → Cn} (hN : N ≤ 11600) (hT : rTab rw hgt (Vdr rw nb) (oGr rw) N cs uO uH uN ch uI) (h19 : z 19 = nI N) : ok (x_M_digest fu tI tO oV oT uO uI z) (fun t => z02 z t.2 ∧ rRow t.2 row R ∧ t.2 2 = 0 ∧ t.1 = dgS rw (liv N uI cs)) := by
  unfold x_M_digest
  refine ok_bnd ?_
  refine ok_mono (l_dg9 fu st tA tZ tI tN tNs tO tOs iA iS iLn iQ oS oL oT one tC hA hN hT (z := upd z 2 0) (by rw [pk_un (by decide)]; exact h19) N 0 fu (Nat.zero_add _) (by omega)) fun t ht' => ?_
  obtain ⟨t1, t2⟩ := t
  obtain ⟨p1, p2⟩ := ht'
  replace p2 : t2 = upd z 2 0 := p2
  subst p2
  exact ⟨z02_2 z 0, rRow_2 h 0, (show upd z 2 0 2 = 0 from pk_us), p1⟩
