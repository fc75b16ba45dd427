-- the reference's valid: all transactions
set_option maxHeartbeats 2000000 in
theorem ouS_le {rw : Nat → List Int32} {Vd : Nat → Nat → Prop} {sB : Nat → Nat} {tG iG oG : Nat → Nat → Nat} {st tA tZ tI tN tNs tO tOs iA iS iL iQ oS oL oT one tC : Nat → Int32} {oV : Nat → Int64} (hA : rAl rw Vd sB tG iG oG st tA tZ tI tN tNs tO tOs iA iS iL iQ oS oL oT one tC oV) {b t : Nat} (hV : Vd b t) : ouS rw b t < 2 ^ 60 := by
  obtain ⟨⟨-, -, -, -, -, -, a7⟩, -, ⟨-, -, -, -, b5⟩, -⟩ := hA.2.2 b t hV
  have := sumL_le (f := fun o : In3 => leP (lf (rw b)) o.1 8) (m := 2100000000000000) (txO rw b t).2.2.2.1 (fun x hx => (b5 x hx).2.2.2)
  have h2 : 2100000000000000 * (txO rw b t).2.2.2.1.length ≤ 2100000000000000 * 400 := Nat.mul_le_mul_left _ a7
  unfold ouS
  omega
set_option maxHeartbeats 2000000 in
/-- the outputs' sum, then the rest of a transaction -/
theorem l_va53 {F : Type} [Lean.Grind.Field F] [DecidableEq F] {c : Int → F} (hc : cH pP c) (fu : Nat) (hfu : 2 ^ 257 ≤ fu) (st gh bt bts tA tZ tI tN tNs tO tOs iA iS iL iQ : Nat → Int32) (oV : Nat → Int64) (oS oL oT one tC : Nat → Int32) {sgB : Nat → List Int32 → List Int32 → Bool} {rw : Nat → List Int32} {hgt : Nat → Nat} {Vd : Nat → Nat → Prop} {sB : Nat → Nat} {tG iG oG : Nat → Nat → Nat} {ev : Nat → Nat → List Cn → Prop} {b : Nat} (hsg : ∀ e K G, sgB e K G = true ↔ sgO c e K G) (hE : vEn sgB rw hgt Vd sB tG iG oG ev st gh bt bts tA tZ tI tN tNs tO tOs iA iS iL iQ oV oS oL oT one tC b) (K : K20) {z0 : Nat → Int32} {t n fee : Nat} {x5 : Int64} (ht : t < (TLb rw b).length) {U : List Cn} (hU : ev b t U) {N : Nat} (hNo : N ≤ oG b t) (hK : ∀ x5', (x5' = if t = 0 then lN (ouS rw b 0) else x5) → (stp sgB rw hgt b t U (stp0 rw hgt b t U) ∧ (stp0 rw hgt b t U).1 = 0 ∧ (stp0 rw hgt b t U).2.2 ≤ 2100000000000000 * (txO rw b t).2.1.length) → ∀ cs z u1 uO uH uN ch uI s1 s2 s3 s4 s5 s6 s7 s8 s9 s10 s11 s12 s13 s14 s15 s16 s17 s18 s19 s20 s21 s22 s23 s24 s25 th sz tk mg id, vSt sgB rw hgt Vd iG oG ev z0 (oG b (t + 1)) (stp0 rw hgt b t U).2.1 (N + (txO rw b t).2.2.2.1.length) cs z u1 uO uH uN ch uI th → ok (K (nI b) (nI (hgt b)) (lN (fee + (stp0 rw hgt b t U).2.2)) x5' (nI (tG b t + 1)) z u1 uO uH uN ch uI s1 s2 s3 s4 s5 s6 s7 s8 s9 s10 s11 s12 s13 s14 s15 s16 s17 s18 s19 s20 s21 s22 s23 s24 s25 th sz tk mg id) (va38 sgB rw hgt Vd iG oG ev b z0 (vlW sgB rw hgt b (n + 1) t U fee))) : ∀ r j m cs z u1 uO uH uN ch uI s1 s2 s3 s4 s5 s6 s7 s8 s9 s10 s11 s12 s13 s14 s15 s16 s17 s18 s19 s20 s21 s22 s23 s24 s25 th sz tk mg id, j + r = (txO rw b t).2.2.2.1.length → r < m → vSt sgB rw hgt Vd iG oG ev z0 (oG b t) U N cs z u1 uO uH uN ch uI th → ok (x_M_valid_53 fu st gh bt bts tA tZ tI tN tNs tO tOs iA iS iL iQ oV oS oL oT one tC K m (nI b) (nI (hgt b)) (lN fee) x5 (nI (tG b t)) (0 : Int64) (lN (sumL (fun o : In3 => leP (lf (rw b)) o.1 8) ((txO rw b t).2.2.2.1.take j))) (nI (oG b t + j)) z u1 uO uH uN ch uI s1 s2 s3 s4 s5 s6 s7 s8 s9 s10 s11 s12 s13 s14 s15 s16 s17 s18 s19 s20 s21 s22 s23 s24 s25 th sz tk mg id) (va38 sgB rw hgt Vd iG oG ev b z0 (vlW sgB rw hgt b (n + 1) t U fee)) := by
  have hfu2 : 40000 ≤ fu := Nat.le_trans (by decide) hfu
  have hE' := hE
  obtain ⟨hA, hI, hev, hst, hh, ⟨p1, p2, p3, p4, p5⟩, hTt, p6, p7, p8⟩ := hE
  obtain ⟨v1, v2, v3, v4, v5⟩ := hTt t ht
  obtain ⟨⟨a1, a2, a3, a4, a5, a6, a7⟩, -, -, ⟨c1, c2, c3, c4, c5, c6, c7, c8⟩, -, oo⟩ := hA.2.2 b t v1
  have hou := ouS_le hA v1
  intro r
  induction r with
  | zero =>
    intro j m cs z u1 uO uH uN ch uI s1 s2 s3 s4 s5 s6 s7 s8 s9 s10 s11 s12 s13 s14 s15 s16 s17 s18 s19 s20 s21 s22 s23 s24 s25 th sz tk mg id hj hm hS
    obtain ⟨m, rfl⟩ : ∃ q, m = q + 1 := ⟨m - 1, by omega⟩
    have ej : j = (txO rw b t).2.2.2.1.length := by omega
    show ok (xb_M_valid_53 fu st gh bt bts tA tZ tI tN tNs tO tOs iA iS iL iQ oV oS oL oT one tC K (x_M_valid_53 fu st gh bt bts tA tZ tI tN tNs tO tOs iA iS iL iQ oV oS oL oT one tC K m) (nI b) (nI (hgt b)) (lN fee) x5 (nI (tG b t)) (0 : Int64) (lN (sumL (fun o : In3 => leP (lf (rw b)) o.1 8) ((txO rw b t).2.2.2.1.take j))) (nI (oG b t + j)) z u1 uO uH uN ch uI s1 s2 s3 s4 s5 s6 s7 s8 s9 s10 s11 s12 s13 s14 s15 s16 s17 s18 s19 s20 s21 s22 s23 s24 s25 th sz tk mg id) _
    unfold xb_M_valid_53 xb_M_valid_455
    have hS' := hS
    obtain ⟨q1, q2, q3, q4, q5, q6, q7⟩ := hS
    have es : sumL (fun o : In3 => leP (lf (rw b)) o.1 8) ((txO rw b t).2.2.2.1.take j) = ouS rw b t := by rw [ej, List.take_length]; rfl
    rw [es, nI_clamp (n := tG b t) (by omega), c6, c7, c4, c5, nI_clamp (n := b) (by omega), p3]
    refine ok_gd (inb_nI a1 (by decide)) (ok_bnd (ok_gd (inb_nI a1 (by decide)) (ok_bnd ?_)))
    rw [nI_add]
    refine ok_t ((nI_leI (by omega) (by omega)).mpr (by omega)) (ok_gd (inb_nI p1 (by decide)) (ok_bnd ?_))
    by_cases ct : t = 0
    · have e0 : stp0 rw hgt b t U = (0, adO rw b t U (txO rw b t).2.2.2.1.length, 0) := by unfold stp0; rw [if_pos ct]
      refine ok_t (by rw [ct]) (ok_bd7 (v_M_come fu (by omega) tI tO tOs oT (rAl_C hA) v1 (tf_1 ct) (by omega) q1 q3 id) (fun f1 f2 f3 f4 f5 f6 f7 hq => ok_bn (nI_1 _) ?_))
      obtain ⟨g1, g2, cs', g3, g4⟩ := hq
      replace g1 : ∀ j, j ≠ 19 → f1 j = z j := g1
      replace g2 : f1 19 = nI (N + (txO rw b t).2.2.2.1.length) := g2
      replace g3 : rTab rw hgt Vd oG (N + (txO rw b t).2.2.2.1.length) cs' f2 f3 f4 f5 f6 := g3
      replace g4 : liv (N + (txO rw b t).2.2.2.1.length) f6 cs' = adO rw b t (liv N uI cs) (txO rw b t).2.2.2.1.length := g4
      rw [q4] at g4
      have := hK (lN (ouS rw b t)) (by rw [if_pos ct, ct]) ⟨Or.inr ⟨Or.inr (Or.inl ct), rfl⟩, by rw [e0], by rw [e0]; exact Nat.zero_le _⟩ cs' f1 u1 f2 f3 f4 f5 f6 s1 s2 s3 s4 s5 s6 s7 s8 s9 s10 s11 s12 s13 s14 s15 s16 s17 s18 s19 s20 s21 s22 s23 s24 s25 th sz tk mg f7
      rw [e0] at this
      exact this ⟨g2, by omega, g3, g4, q5, q6, fun j hj => (g1 j (by omega)).trans (q7 j hj)⟩
    · refine ok_f (fun e => ct (by have := (nI_eq (by omega) (by omega)).mp e; omega)) (ok_gd (inb_nI a1 (by decide)) (ok_bnd (ok_gd (inb_nI a1 (by decide)) (ok_bnd (ok_bn (nI_add _ _) (ok_gd (inb_nI a1 (by decide)) (ok_bnd ?_)))))))
      rw [show nI (iG b t) = nI (iG b t + 0) from rfl]
      exact l_va143 hc fu hfu st gh bt bts tA tZ tI tN tNs tO tOs iA iS iL iQ oV oS oL oT one tC hsg hE' K ht ct hU (by rw [← q4]; exact kyU_l q3) hou hNo (hK x5 (by rw [if_neg ct])) (txO rw b t).2.1.length 0 fu cs z u1 uO uH uN ch uI s1 s2 s3 s4 s5 s6 s7 s8 s9 s10 s11 s12 s13 s14 s15 s16 s17 s18 s19 s20 s21 s22 s23 s24 s25 th sz tk mg id (Nat.zero_add _) (by omega) (fun j hj => absurd hj (Nat.not_lt_zero _)) hS'
  | succ r ih =>
    intro j m cs z u1 uO uH uN ch uI s1 s2 s3 s4 s5 s6 s7 s8 s9 s10 s11 s12 s13 s14 s15 s16 s17 s18 s19 s20 s21 s22 s23 s24 s25 th sz tk mg id hj hm hS
    obtain ⟨m, rfl⟩ : ∃ q, m = q + 1 := ⟨m - 1, by omega⟩
    show ok (xb_M_valid_53 fu st gh bt bts tA tZ tI tN tNs tO tOs iA iS iL iQ oV oS oL oT one tC K (x_M_valid_53 fu st gh bt bts tA tZ tI tN tNs tO tOs iA iS iL iQ oV oS oL oT one tC K m) (nI b) (nI (hgt b)) (lN fee) x5 (nI (tG b t)) (0 : Int64) (lN (sumL (fun o : In3 => leP (lf (rw b)) o.1 8) ((txO rw b t).2.2.2.1.take j))) (nI (oG b t + j)) z u1 uO uH uN ch uI s1 s2 s3 s4 s5 s6 s7 s8 s9 s10 s11 s12 s13 s14 s15 s16 s17 s18 s19 s20 s21 s22 s23 s24 s25 th sz tk mg id) _
    unfold xb_M_valid_53
    rw [nI_clamp (n := tG b t) (by omega), c6, c7]
    refine ok_gd (inb_nI a1 (by decide)) (ok_bnd (ok_gd (inb_nI a1 (by decide)) (ok_bnd ?_)))
    rw [nI_add]
    refine ok_f (fun e => by have := (nI_leI (by omega) (by omega)).mp e; omega) (ok_gd (inb_nI (by omega) (by decide)) ?_)
    rw [nI_clamp (n := oG b t + j) (by omega), (oo j (by omega)).1]
    refine ok_bnd (ok_bn (e' := lN (sumL (fun o : In3 => leP (lf (rw b)) o.1 8) ((txO rw b t).2.2.2.1.take (j + 1)))) ?_ (ok_bn (nI_1 _) (ih (j + 1) m cs z u1 uO uH uN ch uI s1 s2 s3 s4 s5 s6 s7 s8 s9 s10 s11 s12 s13 s14 s15 s16 s17 s18 s19 s20 s21 s22 s23 s24 s25 th sz tk mg id (by omega) (by omega) hS)))
    rw [lN_a, sumL_tk (fun o : In3 => leP (lf (rw b)) o.1 8) d3 _ (show j < (txO rw b t).2.2.2.1.length by omega)]
set_option maxHeartbeats 2000000 in
theorem l_sbs {h : Nat} (hh : h ≤ 60) : (5000000000 : Int64) >>> ((nI h / (20 : Int32)).toInt64 &&& 63) = lN (sbs h) ∧ nI h / (20 : Int32) = nI (h / 20) := by
  have e : nI h / (20 : Int32) = nI (h / 20) := pk_div (d := 20) (by omega) (by decide) (by decide)
  refine ⟨?_, e⟩
  rw [e]
  unfold sbs
  have cs : h / 20 = 0 ∨ h / 20 = 1 ∨ h / 20 = 2 ∨ h / 20 = 3 := by omega
  rcases cs with q | q | q | q <;> rw [q] <;> decide
set_option maxHeartbeats 2000000 in
theorem l_va20 {F : Type} [Lean.Grind.Field F] [DecidableEq F] {c : Int → F} (hc : cH pP c) (fu : Nat) (hfu : 2 ^ 257 ≤ fu) (st gh bt bts tA tZ tI tN tNs tO tOs iA iS iL iQ : Nat → Int32) (oV : Nat → Int64) (oS oL oT one tC : Nat → Int32) {sgB : Nat → List Int32 → List Int32 → Bool} {rw : Nat → List Int32} {hgt : Nat → Nat} {Vd : Nat → Nat → Prop} {sB : Nat → Nat} {tG iG oG : Nat → Nat → Nat} {ev : Nat → Nat → List Cn → Prop} {b : Nat} (hsg : ∀ e K G, sgB e K G = true ↔ sgO c e K G) (hE : vEn sgB rw hgt Vd sB tG iG oG ev st gh bt bts tA tZ tI tN tNs tO tOs iA iS iL iQ oV oS oL oT one tC b) {z0 : Nat → Int32} : ∀ n t fee md U m N cs z u1 uO uH uN ch uI s1 s2 s3 s4 s5 s6 s7 s8 s9 s10 s11 s12 s13 s14 s15 s16 s17 s18 s19 s20 s21 s22 s23 s24 s25 th sz tk mg id, t + n = (TLb rw b).length → n < m → ev b t U → (md = ouS rw b 0 ∨ (t = 0 ∧ md = 0)) → fee ≤ 2100000000000000 * (iG b t - iG b 0) → iG b 0 ≤ iG b t → iG b t ≤ iG b 0 + 73 → vSt sgB rw hgt Vd iG oG ev z0 (oG b t) U N cs z u1 uO uH uN ch uI th → ok (x_M_valid_20 fu st gh bt bts tA tZ tI tN tNs tO tOs iA iS iL iQ oV oS oL oT one tC m (nI b) (nI (hgt b)) (lN fee) (lN md) (nI (tG b 0 + t)) z u1 uO uH uN ch uI s1 s2 s3 s4 s5 s6 s7 s8 s9 s10 s11 s12 s13 s14 s15 s16 s17 s18 s19 s20 s21 s22 s23 s24 s25 th sz tk mg id) (va38 sgB rw hgt Vd iG oG ev b z0 (vlW sgB rw hgt b n t U fee)) := by
  have hfu2 : 40000 ≤ fu := Nat.le_trans (by decide) hfu
  have hE' := hE
  obtain ⟨hA, hI, hev, hst, hh, ⟨p1, p2, p3, p4, p5⟩, hTt, p6, p7, p8⟩ := hE
  intro n
  induction n with
  | zero =>
    intro t fee md U m N cs z u1 uO uH uN ch uI s1 s2 s3 s4 s5 s6 s7 s8 s9 s10 s11 s12 s13 s14 s15 s16 s17 s18 s19 s20 s21 s22 s23 s24 s25 th sz tk mg id htn hm hU hmd hfee hi0 hi73 hS
    obtain ⟨m, rfl⟩ : ∃ q, m = q + 1 := ⟨m - 1, by omega⟩
    show ok (xb_M_valid_20 fu st gh bt bts tA tZ tI tN tNs tO tOs iA iS iL iQ oV oS oL oT one tC (x_M_valid_20 fu st gh bt bts tA tZ tI tN tNs tO tOs iA iS iL iQ oV oS oL oT one tC m) (nI b) (nI (hgt b)) (lN fee) (lN md) (nI (tG b 0 + t)) z u1 uO uH uN ch uI s1 s2 s3 s4 s5 s6 s7 s8 s9 s10 s11 s12 s13 s14 s15 s16 s17 s18 s19 s20 s21 s22 s23 s24 s25 th sz tk mg id) _
    unfold xb_M_valid_20 xb_M_valid_482
    obtain ⟨q1, q2, q3, q4, q5, q6, q7⟩ := hS
    obtain ⟨s1', s2'⟩ := l_sbs p5
    have hmd2 : md = ouS rw b 0 := by
      rcases hmd with e | ⟨e, e'⟩
      · exact e
      · have : TLb rw b = [] := List.eq_nil_of_length_eq_zero (by omega)
        rw [e']
        unfold ouS txO
        rw [this]
        rfl
    have hmd60 : md < 2 ^ 60 := by
      rw [hmd2]
      by_cases ct : 0 < (TLb rw b).length
      · exact ouS_le hA (hTt 0 ct).1
      · have : TLb rw b = [] := List.eq_nil_of_length_eq_zero (by omega)
        unfold ouS txO
        rw [this]
        show (0 : Nat) < 2 ^ 60
        decide
    have hsb : sbs (hgt b) ≤ 5000000000 := Nat.div_le_self _ _
    have hf73 : fee ≤ 2100000000000000 * 73 := Nat.le_trans hfee (Nat.mul_le_mul_left _ (by omega))
    rw [nI_clamp (n := b) (by omega), p3, p4]
    refine ok_gd (inb_nI p1 (by decide)) (ok_bnd (ok_gd (inb_nI p1 (by decide)) (ok_bnd ?_)))
    rw [nI_add]
    refine ok_t ((nI_leI (by omega) (by omega)).mpr (by omega)) (ok_bn s2' (ok_t ((nI_leI (b := 62) (by omega) (by omega)).mpr (by omega)) ?_))
    rw [s1', lN_a]
    have hz : ∀ v, (v = if sbs (hgt b) + fee < ouS rw b 0 then 14 else 0) → vaQ sgB rw hgt Vd iG oG ev b z0 (vlW sgB rw hgt b 0 t U fee) (nI v) z u1 uO uH uN ch uI th := fun v hv => ⟨v, U, ⟨(0, U, fee), rfl, Or.inr ⟨rfl, rfl, hv⟩⟩, rfl, q5, q6, q7, fun _ => ⟨N, cs, q1, by rw [show (TLb rw b).length = t from by omega]; exact q2, q3, q4⟩⟩
    by_cases cw : md ≤ sbs (hgt b) + fee
    · refine ok_t ((lg_le' (lN_I (by omega)) (lN_I (by omega))).mpr (by omega)) (ok_some (hz 0 ?_))
      rw [if_neg (by omega)]
    · refine ok_f (fun e => cw (by have := (lg_le' (lN_I (show md < 2 ^ 63 by omega)) (lN_I (show sbs (hgt b) + fee < 2 ^ 63 by omega))).mp e; omega)) (ok_some (hz 14 ?_))
      rw [if_pos (by omega)]
  | succ n ih =>
    intro t fee md U m N cs z u1 uO uH uN ch uI s1 s2 s3 s4 s5 s6 s7 s8 s9 s10 s11 s12 s13 s14 s15 s16 s17 s18 s19 s20 s21 s22 s23 s24 s25 th sz tk mg id htn hm hU hmd hfee hi0 hi73 hS
    obtain ⟨m, rfl⟩ : ∃ q, m = q + 1 := ⟨m - 1, by omega⟩
    have ht : t < (TLb rw b).length := by omega
    obtain ⟨v1, v2, v3, v4, v5⟩ := hTt t ht
    obtain ⟨⟨a1, a2, a3, a4, a5, a6, a7⟩, -, -, ⟨c1, c2, c3, c4, c5, c6, c7, c8⟩, -⟩ := hA.2.2 b t v1
    show ok (xb_M_valid_20 fu st gh bt bts tA tZ tI tN tNs tO tOs iA iS iL iQ oV oS oL oT one tC (x_M_valid_20 fu st gh bt bts tA tZ tI tN tNs tO tOs iA iS iL iQ oV oS oL oT one tC m) (nI b) (nI (hgt b)) (lN fee) (lN md) (nI (tG b 0 + t)) z u1 uO uH uN ch uI s1 s2 s3 s4 s5 s6 s7 s8 s9 s10 s11 s12 s13 s14 s15 s16 s17 s18 s19 s20 s21 s22 s23 s24 s25 th sz tk mg id) _
    unfold xb_M_valid_20
    rw [nI_clamp (n := b) (by omega), p3, p4]
    refine ok_gd (inb_nI p1 (by decide)) (ok_bnd (ok_gd (inb_nI p1 (by decide)) (ok_bnd ?_)))
    rw [nI_add, ← v2]
    refine ok_f (fun e => by have := (nI_leI (by omega) (by omega)).mp e; omega) (ok_gd (inb_nI a1 (by decide)) ?_)
    rw [nI_clamp (n := tG b t) (by omega), c6, show nI (oG b t) = nI (oG b t + 0) from rfl, show (0 : Int64) = lN (sumL (fun o : In3 => leP (lf (rw b)) o.1 8) ((txO rw b t).2.2.2.1.take 0)) from by rw [List.take_zero]; rfl]
    have hgo := l_va53 hc fu hfu st gh bt bts tA tZ tI tN tNs tO tOs iA iS iL iQ oV oS oL oT one tC hsg hE' (x_M_valid_20 fu st gh bt bts tA tZ tI tN tNs tO tOs iA iS iL iQ oV oS oL oT one tC m) (z0 := z0) (n := n) (fee := fee) (x5 := lN md) ht hU hS.2.1 (fun x5' hx5 hstp cs z u1 uO uH uN ch uI s1 s2 s3 s4 s5 s6 s7 s8 s9 s10 s11 s12 s13 s14 s15 s16 s17 s18 s19 s20 s21 s22 s23 s24 s25 th sz tk mg id hv => ?_) (txO rw b t).2.2.2.1.length 0 fu cs z u1 uO uH uN ch uI s1 s2 s3 s4 s5 s6 s7 s8 s9 s10 s11 s12 s13 s14 s15 s16 s17 s18 s19 s20 s21 s22 s23 s24 s25 th sz tk mg id (Nat.zero_add _) (by omega) hS
    · rw [show (0 : Int64) = lN (sumL (fun o : In3 => leP (lf (rw b)) o.1 8) ((txO rw b t).2.2.2.1.take 0)) from by rw [List.take_zero]; rfl] at hgo
      exact ok_bnd hgo
    · obtain ⟨g1, g2, g3⟩ := hstp
      have emd : ∃ md', x5' = lN md' ∧ md' = ouS rw b 0 := by
        by_cases ct : t = 0
        · rw [if_pos ct] at hx5
          exact ⟨_, hx5, rfl⟩
        · rw [if_neg ct] at hx5
          refine ⟨md, hx5, ?_⟩
          rcases hmd with e | ⟨e, -⟩
          · exact e
          · exact absurd e ct
      obtain ⟨md', rfl, emd'⟩ := emd
      rw [show tG b t + 1 = tG b 0 + (t + 1) from by omega]
      have hi73' : iG b (t + 1) ≤ iG b 0 + 73 := by
        have mono : ∀ d, t + 1 + d ≤ (TLb rw b).length → iG b (t + 1) ≤ iG b (t + 1 + d) := by
          intro d
          induction d with
          | zero => intro _; exact Nat.le_refl _
          | succ d ihd =>
            intro hd
            have h1 := ihd (by omega)
            have h2 := (hTt (t + 1 + d) (by omega)).2.2.1
            rw [show t + 1 + (d + 1) = t + 1 + d + 1 from rfl, h2]
            omega
        have := mono n (by omega)
        rw [show t + 1 + n = (TLb rw b).length from by omega] at this
        omega
      refine ok_mono (ih (t + 1) (fee + (stp0 rw hgt b t U).2.2) md' (stp0 rw hgt b t U).2.1 m (N + (txO rw b t).2.2.2.1.length) cs z u1 uO uH uN ch uI s1 s2 s3 s4 s5 s6 s7 s8 s9 s10 s11 s12 s13 s14 s15 s16 s17 s18 s19 s20 s21 s22 s23 s24 s25 th sz tk mg id (by omega) (by omega) (hst t U _ hU g1 g2) (Or.inl emd') ?_ (by omega) hi73' hv) (fun x hx => vaQ_n g1 g2 hx)
      rw [v3, show iG b t + (txO rw b t).2.1.length - iG b 0 = (iG b t - iG b 0) + (txO rw b t).2.1.length from by omega, Nat.mul_add]
      omega
set_option maxHeartbeats 2000000 in
theorem v_M_valid {F : Type} [Lean.Grind.Field F] [DecidableEq F] {c : Int → F} (hc : cH pP c) (fu : Nat) (hfu : 2 ^ 257 ≤ fu) (st gh bt bts tA tZ tI tN tNs tO tOs iA iS iL iQ : Nat → Int32) (oV : Nat → Int64) (oS oL oT one tC : Nat → Int32) {sgB : Nat → List Int32 → List Int32 → Bool} {rw : Nat → List Int32} {hgt : Nat → Nat} {Vd : Nat → Nat → Prop} {sB : Nat → Nat} {tG iG oG : Nat → Nat → Nat} {ev : Nat → Nat → List Cn → Prop} {b : Nat} (hsg : ∀ e K G, sgB e K G = true ↔ sgO c e K G) (hE : vEn sgB rw hgt Vd sB tG iG oG ev st gh bt bts tA tZ tI tN tNs tO tOs iA iS iL iQ oV oS oL oT one tC b) {U : List Cn} (hU : ev b 0 U) {N : Nat} {cs : Nat → Cn} {z u1 uO uH uN ch uI th : Nat → Int32} (hS : vSt sgB rw hgt Vd iG oG ev z (oG b 0) U N cs z u1 uO uH uN ch uI th) (s1 s2 s3 s4 s5 s6 s7 s8 s9 s10 s11 s12 s13 s14 s15 s16 s17 s18 s19 s20 s21 s22 s23 s24 s25 sz tk mg id : Nat → Int32) : ok (x_M_valid fu st gh bt bts tA tZ tI tN tNs tO tOs iA iS iL iQ oV oS oL oT one tC (nI b) z u1 uO uH uN ch uI s1 s2 s3 s4 s5 s6 s7 s8 s9 s10 s11 s12 s13 s14 s15 s16 s17 s18 s19 s20 s21 s22 s23 s24 s25 th sz tk mg id) (va38 sgB rw hgt Vd iG oG ev b z (vld sgB rw hgt b U)) := by
  have hfu2 : 40000 ≤ fu := Nat.le_trans (by decide) hfu
  have hE' := hE
  obtain ⟨hA, hI, hev, hst, hh, ⟨p1, p2, p3, p4, p5⟩, hTt, p6, p7, p8⟩ := hE
  unfold x_M_valid
  rw [nI_clamp (n := b) (by omega), p2, p3]
  refine ok_gd (inb_nI p1 (by decide)) (ok_bnd (ok_gd (inb_nI p1 (by decide)) (ok_bnd ?_)))
  exact l_va20 hc fu hfu st gh bt bts tA tZ tI tN tNs tO tOs iA iS iL iQ oV oS oL oT one tC hsg hE' (TLb rw b).length 0 0 0 U fu N cs z u1 uO uH uN ch uI s1 s2 s3 s4 s5 s6 s7 s8 s9 s10 s11 s12 s13 s14 s15 s16 s17 s18 s19 s20 s21 s22 s23 s24 s25 th sz tk mg id (Nat.zero_add _) (by omega) hU (Or.inr ⟨rfl, rfl⟩) (Nat.zero_le _) (Nat.le_refl _) (by omega) hS
