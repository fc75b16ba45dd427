-- the reference's valid
abbrev T38 : Type := Int32 × (Nat → Int32) × (Nat → Int32) × (Nat → Int32) × (Nat → Int32) × (Nat → Int32) × (Nat → Int32) × (Nat → Int32) × (Nat → Int32) × (Nat → Int32) × (Nat → Int32) × (Nat → Int32) × (Nat → Int32) × (Nat → Int32) × (Nat → Int32) × (Nat → Int32) × (Nat → Int32) × (Nat → Int32) × (Nat → Int32) × (Nat → Int32) × (Nat → Int32) × (Nat → Int32) × (Nat → Int32) × (Nat → Int32) × (Nat → Int32) × (Nat → Int32) × (Nat → Int32) × (Nat → Int32) × (Nat → Int32) × (Nat → Int32) × (Nat → Int32) × (Nat → Int32) × (Nat → Int32) × (Nat → Int32) × (Nat → Int32) × (Nat → Int32) × (Nat → Int32) × (Nat → Int32)
abbrev K20 : Type := Int32 → Int32 → Int64 → Int64 → Int32 → (Nat → Int32) → (Nat → Int32) → (Nat → Int32) → (Nat → Int32) → (Nat → Int32) → (Nat → Int32) → (Nat → Int32) → (Nat → Int32) → (Nat → Int32) → (Nat → Int32) → (Nat → Int32) → (Nat → Int32) → (Nat → Int32) → (Nat → Int32) → (Nat → Int32) → (Nat → Int32) → (Nat → Int32) → (Nat → Int32) → (Nat → Int32) → (Nat → Int32) → (Nat → Int32) → (Nat → Int32) → (Nat → Int32) → (Nat → Int32) → (Nat → Int32) → (Nat → Int32) → (Nat → Int32) → (Nat → Int32) → (Nat → Int32) → (Nat → Int32) → (Nat → Int32) → (Nat → Int32) → (Nat → Int32) → (Nat → Int32) → (Nat → Int32) → (Nat → Int32) → (Nat → Int32) → Option T38
def vEn (sgB : Nat → List Int32 → List Int32 → Bool) (rw : Nat → List Int32) (hgt : Nat → Nat) (Vd : Nat → Nat → Prop) (sB : Nat → Nat) (tG iG oG : Nat → Nat → Nat) (ev : Nat → Nat → List Cn → Prop) (st gh bt bts tA tZ tI tN tNs tO tOs iA iS iL iQ : Nat → Int32) (oV : Nat → Int64) (oS oL oT one tC : Nat → Int32) (b : Nat) : Prop := rAl rw Vd sB tG iG oG st tA tZ tI tN tNs tO tOs iA iS iL iQ oS oL oT one tC oV ∧ iIj rw Vd iG ∧ (∀ b t U U', ev b t U → ev b t U' → U = U') ∧ (∀ t U s, ev b t U → stp sgB rw hgt b t U s → s.1 = 0 → ev b (t + 1) s.2.1) ∧ (∀ b t, Vd b t → hgt b ≤ 60) ∧ (b < 202 ∧ gh b = nI (hgt b) ∧ bt b = nI (tG b 0) ∧ bts b = nI (TLb rw b).length ∧ hgt b ≤ 60) ∧ (∀ t, t < (TLb rw b).length → Vd b t ∧ tG b t = tG b 0 + t ∧ iG b (t + 1) = iG b t + (txO rw b t).2.1.length ∧ oG b (t + 1) = oG b t + (txO rw b t).2.2.2.1.length ∧ (t ≠ 0 → inD rw b t)) ∧ (iG b (TLb rw b).length ≤ iG b 0 + 73 ∧ oG b (TLb rw b).length ≤ 11600 ∧ tG b 0 + (TLb rw b).length ≤ 2200)
/-- before transaction t -/
def vSt (sgB : Nat → List Int32 → List Int32 → Bool) (rw : Nat → List Int32) (hgt : Nat → Nat) (Vd : Nat → Nat → Prop) (iG oG : Nat → Nat → Nat) (ev : Nat → Nat → List Cn → Prop) (z0 : Nat → Int32) (M : Nat) (U : List Cn) (N : Nat) (cs : Nat → Cn) (z u1 uO uH uN ch uI th : Nat → Int32) : Prop := z 19 = nI N ∧ N ≤ M ∧ rTab rw hgt Vd oG N cs uO uH uN ch uI ∧ liv N uI cs = U ∧ iFi sgB rw Vd iG ev u1 ∧ ftB th ∧ ∀ j, j < 8 ∨ (15 < j ∧ j ≠ 19) → z j = z0 j
def vaQ (sgB : Nat → List Int32 → List Int32 → Bool) (rw : Nat → List Int32) (hgt : Nat → Nat) (Vd : Nat → Nat → Prop) (iG oG : Nat → Nat → Nat) (ev : Nat → Nat → List Cn → Prop) (b : Nat) (z0 : Nat → Int32) (R : Nat → List Cn → Prop) (w : Int32) (z u1 uO uH uN ch uI th : Nat → Int32) : Prop := ∃ v U', R v U' ∧ w = nI v ∧ iFi sgB rw Vd iG ev u1 ∧ ftB th ∧ (∀ j, j < 8 ∨ (15 < j ∧ j ≠ 19) → z j = z0 j) ∧ (v = 0 → ∃ N cs, z 19 = nI N ∧ N ≤ oG b (TLb rw b).length ∧ rTab rw hgt Vd oG N cs uO uH uN ch uI ∧ liv N uI cs = U')
def va38 (sgB : Nat → List Int32 → List Int32 → Bool) (rw : Nat → List Int32) (hgt : Nat → Nat) (Vd : Nat → Nat → Prop) (iG oG : Nat → Nat → Nat) (ev : Nat → Nat → List Cn → Prop) (b : Nat) (z0 : Nat → Int32) (R : Nat → List Cn → Prop) (x : T38) : Prop := match x with
  | (w, z, u1, uO, uH, uN, ch, uI, _, _, _, _, _, _, _, _, _, _, _, _, _, _, _, _, _, _, _, _, _, _, _, _, _, th, _, _, _, _) => vaQ sgB rw hgt Vd iG oG ev b z0 R w z u1 uO uH uN ch uI th
/-- a block's rest, from a transaction on -/
def vlW (sgB : Nat → List Int32 → List Int32 → Bool) (rw : Nat → List Int32) (hgt : Nat → Nat) (b n t : Nat) (U : List Cn) (fee w : Nat) (U' : List Cn) : Prop := ∃ r, vlR sgB rw hgt b n t U fee r ∧ ((r.1 ≠ 0 ∧ w = r.1) ∨ (r.1 = 0 ∧ U' = r.2.1 ∧ w = if sbs (hgt b) + r.2.2 < ouS rw b 0 then 14 else 0))
set_option maxHeartbeats 2000000 in
theorem vaQ_f {sgB : Nat → List Int32 → List Int32 → Bool} {rw : Nat → List Int32} {hgt : Nat → Nat} {Vd : Nat → Nat → Prop} {iG oG : Nat → Nat → Nat} {ev : Nat → Nat → List Cn → Prop} {b : Nat} {z0 : Nat → Int32} {n t : Nat} {U : List Cn} {fee v : Nat} {s : Nat × List Cn × Nat} (hs : stp sgB rw hgt b t U s) (hv : s.1 = v) (h0 : v ≠ 0) {z u1 uO uH uN ch uI th : Nat → Int32} (hi : iFi sgB rw Vd iG ev u1) (hT : ftB th) (hz : ∀ j, j < 8 ∨ (15 < j ∧ j ≠ 19) → z j = z0 j) : vaQ sgB rw hgt Vd iG oG ev b z0 (vlW sgB rw hgt b (n + 1) t U fee) (nI v) z u1 uO uH uN ch uI th := ⟨v, [], ⟨(v, U, 0), ⟨s, hs, Or.inl ⟨by rw [hv]; exact h0, hv.symm⟩⟩, Or.inl ⟨h0, rfl⟩⟩, rfl, hi, hT, hz, fun e => absurd e h0⟩
set_option maxHeartbeats 2000000 in
theorem vaQ_n {sgB : Nat → List Int32 → List Int32 → Bool} {rw : Nat → List Int32} {hgt : Nat → Nat} {Vd : Nat → Nat → Prop} {iG oG : Nat → Nat → Nat} {ev : Nat → Nat → List Cn → Prop} {b : Nat} {z0 : Nat → Int32} {n t : Nat} {U : List Cn} {fee : Nat} {s : Nat × List Cn × Nat} (hs : stp sgB rw hgt b t U s) (hv : s.1 = 0) {x : T38} (h : va38 sgB rw hgt Vd iG oG ev b z0 (vlW sgB rw hgt b n (t + 1) s.2.1 (fee + s.2.2)) x) : va38 sgB rw hgt Vd iG oG ev b z0 (vlW sgB rw hgt b (n + 1) t U fee) x := by
  obtain ⟨v, U', ⟨r, h1, h2⟩, h3⟩ := h
  exact ⟨v, U', ⟨r, ⟨s, hs, Or.inr ⟨hv, h1⟩⟩, h2⟩, h3⟩
set_option maxHeartbeats 2000000 in
theorem spC_V {rw : Nat → List Int32} {hgt : Nat → Nat} {Vd : Nat → Nat → Prop} {oG : Nat → Nat → Nat} {N : Nat} {cs : Nat → Cn} {uO uH uN ch uI : Nat → Int32} (hT : rTab rw hgt Vd oG N cs uO uH uN ch uI) {c : Cn} (h : c ∈ liv N uI cs) : Vd c.1 c.2.1 ∧ c.2.2 < (txO rw c.1 c.2.1).2.2.2.1.length := by
  obtain ⟨e, e1, -, rfl⟩ := mem_liv.mp h
  exact (hT.1 e e1).1
set_option maxHeartbeats 2000000 in
/-- what is spent is gone, and the outputs come -/
theorem l_va388 (fu : Nat) (hfu : 2 ^ 257 ≤ fu) (st gh bt bts tA tZ tI tN tNs tO tOs iA iS iL iQ : Nat → Int32) (oV : Nat → Int64) (oS oL oT one tC : Nat → Int32) {sgB : Nat → List Int32 → List Int32 → Bool} {rw : Nat → List Int32} {hgt : Nat → Nat} {Vd : Nat → Nat → Prop} {sB : Nat → Nat} {tG iG oG : Nat → Nat → Nat} {ev : Nat → Nat → List Cn → Prop} {b : Nat} (hE : vEn sgB rw hgt Vd sB tG iG oG ev st gh bt bts tA tZ tI tN tNs tO tOs iA iS iL iQ oV oS oL oT one tC b) (K : K20) {z0 : Nat → Int32} {t fee sin : Nat} {x5 : Int64} (ht : t < (TLb rw b).length) (ht0 : t ≠ 0) {U : List Cn} (hall : ∀ k, k < (txO rw b t).2.1.length → fnd rw U (inK rw b ((txO rw b t).2.1.getD k d3)) ≠ none) (hu : kyU rw U) (hos : ouS rw b t ≤ sin) {N : Nat} (hNo : N ≤ oG b t) {R : Nat → List Cn → Prop} (hK : ∀ cs z u1 uO uH uN ch uI s1 s2 s3 s4 s5 s6 s7 s8 s9 s10 s11 s12 s13 s14 s15 s16 s17 s18 s19 s20 s21 s22 s23 s24 s25 th sz tk mg id, vSt sgB rw hgt Vd iG oG ev z0 (oG b (t + 1)) (adO rw b t (U.filter fun c => decide (c ∉ spC rw b t U)) (txO rw b t).2.2.2.1.length) (N + (txO rw b t).2.2.2.1.length) cs z u1 uO uH uN ch uI th → ok (K (nI b) (nI (hgt b)) (lN (fee + (sin - ouS rw b t))) x5 (nI (tG b t + 1)) z u1 uO uH uN ch uI s1 s2 s3 s4 s5 s6 s7 s8 s9 s10 s11 s12 s13 s14 s15 s16 s17 s18 s19 s20 s21 s22 s23 s24 s25 th sz tk mg id) (va38 sgB rw hgt Vd iG oG ev b z0 R)) : ∀ r k m cs z u1 uO uH uN ch uI s1 s2 s3 s4 s5 s6 s7 s8 s9 s10 s11 s12 s13 s14 s15 s16 s17 s18 s19 s20 s21 s22 s23 s24 s25 th sz tk mg id, k + r = (txO rw b t).2.1.length → r < m → vSt sgB rw hgt Vd iG oG ev z0 (oG b t) (spT rw b t U k) N cs z u1 uO uH uN ch uI th → ok (x_M_valid_388 fu st gh bt bts tA tZ tI tN tNs tO tOs iA iS iL iQ oV oS oL oT one tC K m (nI b) (nI (hgt b)) (lN fee) x5 (nI (tG b t)) (lN sin) (lN (ouS rw b t)) (nI (iG b t + (txO rw b t).2.1.length)) (nI (iG b t + k)) z u1 uO uH uN ch uI s1 s2 s3 s4 s5 s6 s7 s8 s9 s10 s11 s12 s13 s14 s15 s16 s17 s18 s19 s20 s21 s22 s23 s24 s25 th sz tk mg id) (va38 sgB rw hgt Vd iG oG ev b z0 R) := by
  have hfu2 : 40000 ≤ fu := Nat.le_trans (by decide) hfu
  obtain ⟨hA, hI, hev, hst, hh, ⟨p1, p2, p3, p4, p5⟩, hTt, p6, p7, p8⟩ := hE
  obtain ⟨v1, v2, v3, v4, v5⟩ := hTt t ht
  obtain ⟨⟨a1, a2, a3, a4, a5, a6, a7⟩, -⟩ := hA.2.2 b t v1
  intro r
  induction r with
  | zero =>
    intro k m cs z u1 uO uH uN ch uI s1 s2 s3 s4 s5 s6 s7 s8 s9 s10 s11 s12 s13 s14 s15 s16 s17 s18 s19 s20 s21 s22 s23 s24 s25 th sz tk mg id hk hm hS
    obtain ⟨m, rfl⟩ : ∃ q, m = q + 1 := ⟨m - 1, by omega⟩
    have ek : k = (txO rw b t).2.1.length := by omega
    show ok (xb_M_valid_388 fu st gh bt bts tA tZ tI tN tNs tO tOs iA iS iL iQ oV oS oL oT one tC K (x_M_valid_388 fu st gh bt bts tA tZ tI tN tNs tO tOs iA iS iL iQ oV oS oL oT one tC K m) (nI b) (nI (hgt b)) (lN fee) x5 (nI (tG b t)) (lN sin) (lN (ouS rw b t)) (nI (iG b t + (txO rw b t).2.1.length)) (nI (iG b t + k)) z u1 uO uH uN ch uI s1 s2 s3 s4 s5 s6 s7 s8 s9 s10 s11 s12 s13 s14 s15 s16 s17 s18 s19 s20 s21 s22 s23 s24 s25 th sz tk mg id) _
    unfold xb_M_valid_388 xb_M_valid_455
    obtain ⟨q1, q2, q3, q4, q5, q6, q7⟩ := hS
    refine ok_t ((nI_leI (by omega) (by omega)).mpr (by omega)) ?_
    refine ok_bd7 (v_M_come fu (by omega) tI tO tOs oT (rAl_C hA) v1 (tf_0 ht0) (by omega) q1 q3 id) (fun f1 f2 f3 f4 f5 f6 f7 hq => ?_)
    obtain ⟨g1, g2, cs', g3, g4⟩ := hq
    replace g1 : ∀ j, j ≠ 19 → f1 j = z j := g1
    replace g2 : f1 19 = nI (N + (txO rw b t).2.2.2.1.length) := g2
    replace g3 : rTab rw hgt Vd oG (N + (txO rw b t).2.2.2.1.length) cs' f2 f3 f4 f5 f6 := g3
    replace g4 : liv (N + (txO rw b t).2.2.2.1.length) f6 cs' = adO rw b t (liv N uI cs) (txO rw b t).2.2.2.1.length := g4
    rw [q4, ek, spT_e] at g4
    refine ok_bn (e' := lN (fee + (sin - ouS rw b t))) (by rw [lN_su hos, lN_a]) (ok_bn (nI_1 _) ?_)
    exact hK cs' f1 u1 f2 f3 f4 f5 f6 s1 s2 s3 s4 s5 s6 s7 s8 s9 s10 s11 s12 s13 s14 s15 s16 s17 s18 s19 s20 s21 s22 s23 s24 s25 th sz tk mg f7 ⟨g2, by omega, g3, g4, q5, q6, fun j hj => (g1 j (by omega)).trans (q7 j hj)⟩
  | succ r ih =>
    intro k m cs z u1 uO uH uN ch uI s1 s2 s3 s4 s5 s6 s7 s8 s9 s10 s11 s12 s13 s14 s15 s16 s17 s18 s19 s20 s21 s22 s23 s24 s25 th sz tk mg id hk hm hS
    obtain ⟨m, rfl⟩ : ∃ q, m = q + 1 := ⟨m - 1, by omega⟩
    have hkl : k < (txO rw b t).2.1.length := by omega
    show ok (xb_M_valid_388 fu st gh bt bts tA tZ tI tN tNs tO tOs iA iS iL iQ oV oS oL oT one tC K (x_M_valid_388 fu st gh bt bts tA tZ tI tN tNs tO tOs iA iS iL iQ oV oS oL oT one tC K m) (nI b) (nI (hgt b)) (lN fee) x5 (nI (tG b t)) (lN sin) (lN (ouS rw b t)) (nI (iG b t + (txO rw b t).2.1.length)) (nI (iG b t + k)) z u1 uO uH uN ch uI s1 s2 s3 s4 s5 s6 s7 s8 s9 s10 s11 s12 s13 s14 s15 s16 s17 s18 s19 s20 s21 s22 s23 s24 s25 th sz tk mg id) _
    unfold xb_M_valid_388
    have hS' := hS
    obtain ⟨q1, q2, q3, q4, q5, q6, q7⟩ := hS
    refine ok_f (fun e => by have := (nI_leI (by omega) (by omega)).mp e; omega) ?_
    cases hf : fnd rw U (inK rw b ((txO rw b t).2.1.getD k d3)) with
    | none => exact absurd hf (hall k hkl)
    | some c =>
      have hf2 := spT_f hu (v5 ht0) hall hkl hf
      rw [← q4] at hf2
      refine l_vin fu (by omega) z st tA tZ tI tN tNs tO tOs iA iS iL iQ oS oL oT one tC hA (by omega) q3 v1 hkl _ _ (fun e => by rw [hf2] at e; exact absurd e (by simp)) (fun e e1 e2 e3 e4 => ok_gd (inb_nI (by omega) (by decide)) ?_)
      rw [nI_clamp (n := e) (by omega), show vp_nar .boolean (0 : Int32) = (0 : Int32) from rfl]
      refine ok_bnd (ok_bn (nI_1 _) (ih (k + 1) m cs z u1 uO uH uN ch (upd uI e 0) s1 s2 s3 s4 s5 s6 s7 s8 s9 s10 s11 s12 s13 s14 s15 s16 s17 s18 s19 s20 s21 s22 s23 s24 s25 th sz tk mg id (by omega) (by omega) ⟨q1, q2, rTab_0 q3 e, ?_, q5, q6, q7⟩))
      rw [liv_0 q3.2.2 e1 e2 e3, q4, spT_s hu hkl hf]
set_option maxHeartbeats 2000000 in
/-- scripts -/
theorem l_va315 {F : Type} [Lean.Grind.Field F] [DecidableEq F] {c : Int → F} (hc : cH pP c) (fu : Nat) (hfu : 2 ^ 257 ≤ fu) (st gh bt bts tA tZ tI tN tNs tO tOs iA iS iL iQ : Nat → Int32) (oV : Nat → Int64) (oS oL oT one tC : Nat → Int32) {sgB : Nat → List Int32 → List Int32 → Bool} {rw : Nat → List Int32} {hgt : Nat → Nat} {Vd : Nat → Nat → Prop} {sB : Nat → Nat} {tG iG oG : Nat → Nat → Nat} {ev : Nat → Nat → List Cn → Prop} {b : Nat} (hsg : ∀ e K G, sgB e K G = true ↔ sgO c e K G) (hE : vEn sgB rw hgt Vd sB tG iG oG ev st gh bt bts tA tZ tI tN tNs tO tOs iA iS iL iQ oV oS oL oT one tC b) (K : K20) {z0 : Nat → Int32} {t n fee sin : Nat} {x5 : Int64} (ht : t < (TLb rw b).length) (ht0 : t ≠ 0) {U : List Cn} (hU : ev b t U) (hall : ∀ k, k < (txO rw b t).2.1.length → fnd rw U (inK rw b ((txO rw b t).2.1.getD k d3)) ≠ none) (hu : kyU rw U) (hos : ouS rw b t ≤ sin) (hs0 : (stp0 rw hgt b t U).1 = 0) {N : Nat} (hNo : N ≤ oG b t) (hK : scA sgB rw b t U → ∀ cs z u1 uO uH uN ch uI s1 s2 s3 s4 s5 s6 s7 s8 s9 s10 s11 s12 s13 s14 s15 s16 s17 s18 s19 s20 s21 s22 s23 s24 s25 th sz tk mg id, vSt sgB rw hgt Vd iG oG ev z0 (oG b (t + 1)) (adO rw b t (U.filter fun c => decide (c ∉ spC rw b t U)) (txO rw b t).2.2.2.1.length) (N + (txO rw b t).2.2.2.1.length) cs z u1 uO uH uN ch uI th → ok (K (nI b) (nI (hgt b)) (lN (fee + (sin - ouS rw b t))) x5 (nI (tG b t + 1)) z u1 uO uH uN ch uI s1 s2 s3 s4 s5 s6 s7 s8 s9 s10 s11 s12 s13 s14 s15 s16 s17 s18 s19 s20 s21 s22 s23 s24 s25 th sz tk mg id) (va38 sgB rw hgt Vd iG oG ev b z0 (vlW sgB rw hgt b (n + 1) t U fee))) : ∀ r k m cs z u1 uO uH uN ch uI s1 s2 s3 s4 s5 s6 s7 s8 s9 s10 s11 s12 s13 s14 s15 s16 s17 s18 s19 s20 s21 s22 s23 s24 s25 th sz tk mg id, k + r = (txO rw b t).2.1.length → r < m → (∀ j, j < k → fnS sgB rw b t j ((spC rw b t U).getD j e_C) = true) → vSt sgB rw hgt Vd iG oG ev z0 (oG b t) U N cs z u1 uO uH uN ch uI th → ok (x_M_valid_315 fu st gh bt bts tA tZ tI tN tNs tO tOs iA iS iL iQ oV oS oL oT one tC K m (nI b) (nI (hgt b)) (lN fee) x5 (nI (tG b t)) (lN sin) (lN (ouS rw b t)) (nI (iG b t + (txO rw b t).2.1.length)) (nI (iG b t + k)) z u1 uO uH uN ch uI s1 s2 s3 s4 s5 s6 s7 s8 s9 s10 s11 s12 s13 s14 s15 s16 s17 s18 s19 s20 s21 s22 s23 s24 s25 th sz tk mg id) (va38 sgB rw hgt Vd iG oG ev b z0 (vlW sgB rw hgt b (n + 1) t U fee)) := by
  have hfu2 : 40000 ≤ fu := Nat.le_trans (by decide) hfu
  have hE' := hE
  obtain ⟨hA, hI, hev, hst, hh, ⟨p1, p2, p3, p4, p5⟩, hTt, p6, p7, p8⟩ := hE
  obtain ⟨v1, v2, v3, v4, v5⟩ := hTt t ht
  obtain ⟨⟨a1, a2, a3, a4, a5, a6, a7⟩, -, -, ⟨c1, c2, c3, c4, c5, c6, c7, c8⟩, -⟩ := hA.2.2 b t v1
  intro r
  induction r with
  | zero =>
    intro k m cs z u1 uO uH uN ch uI s1 s2 s3 s4 s5 s6 s7 s8 s9 s10 s11 s12 s13 s14 s15 s16 s17 s18 s19 s20 s21 s22 s23 s24 s25 th sz tk mg id hk hm hj hS
    obtain ⟨m, rfl⟩ : ∃ q, m = q + 1 := ⟨m - 1, by omega⟩
    show ok (xb_M_valid_315 fu st gh bt bts tA tZ tI tN tNs tO tOs iA iS iL iQ oV oS oL oT one tC K (x_M_valid_315 fu st gh bt bts tA tZ tI tN tNs tO tOs iA iS iL iQ oV oS oL oT one tC K m) (nI b) (nI (hgt b)) (lN fee) x5 (nI (tG b t)) (lN sin) (lN (ouS rw b t)) (nI (iG b t + (txO rw b t).2.1.length)) (nI (iG b t + k)) z u1 uO uH uN ch uI s1 s2 s3 s4 s5 s6 s7 s8 s9 s10 s11 s12 s13 s14 s15 s16 s17 s18 s19 s20 s21 s22 s23 s24 s25 th sz tk mg id) _
    unfold xb_M_valid_315
    refine ok_t ((nI_leI (by omega) (by omega)).mpr (by omega)) (ok_gd (inb_nI a1 (by decide)) ?_)
    rw [nI_clamp (n := tG b t) (by omega), c4, show nI (iG b t) = nI (iG b t + 0) from rfl]
    refine ok_bnd (l_va388 fu hfu st gh bt bts tA tZ tI tN tNs tO tOs iA iS iL iQ oV oS oL oT one tC hE' K ht ht0 hall hu hos hNo (hK (fun k hk => hj k (by omega))) (txO rw b t).2.1.length 0 fu cs z u1 uO uH uN ch uI s1 s2 s3 s4 s5 s6 s7 s8 s9 s10 s11 s12 s13 s14 s15 s16 s17 s18 s19 s20 s21 s22 s23 s24 s25 th sz tk mg id (Nat.zero_add _) (by omega) ?_)
    rw [spT_0]
    exact hS
  | succ r ih =>
    intro k m cs z u1 uO uH uN ch uI s1 s2 s3 s4 s5 s6 s7 s8 s9 s10 s11 s12 s13 s14 s15 s16 s17 s18 s19 s20 s21 s22 s23 s24 s25 th sz tk mg id hk hm hj hS
    obtain ⟨m, rfl⟩ : ∃ q, m = q + 1 := ⟨m - 1, by omega⟩
    have hkl : k < (txO rw b t).2.1.length := by omega
    show ok (xb_M_valid_315 fu st gh bt bts tA tZ tI tN tNs tO tOs iA iS iL iQ oV oS oL oT one tC K (x_M_valid_315 fu st gh bt bts tA tZ tI tN tNs tO tOs iA iS iL iQ oV oS oL oT one tC K m) (nI b) (nI (hgt b)) (lN fee) x5 (nI (tG b t)) (lN sin) (lN (ouS rw b t)) (nI (iG b t + (txO rw b t).2.1.length)) (nI (iG b t + k)) z u1 uO uH uN ch uI s1 s2 s3 s4 s5 s6 s7 s8 s9 s10 s11 s12 s13 s14 s15 s16 s17 s18 s19 s20 s21 s22 s23 s24 s25 th sz tk mg id) _
    unfold xb_M_valid_315
    obtain ⟨q1, q2, q3, q4, q5, q6, q7⟩ := hS
    refine ok_f (fun e => by have := (nI_leI (by omega) (by omega)).mp e; omega) ?_
    have hal := hall k hkl
    rw [← q4] at hal
    refine l_vin fu (by omega) z st tA tZ tI tN tNs tO tOs iA iS iL iQ oS oL oT one tC hA (by omega) q3 v1 hkl _ _ (fun e => absurd e hal) (fun e e1 e2 e3 e4 => ok_gd (inb_nI (by omega) (by decide)) ?_)
    obtain ⟨⟨w1, w1'⟩, w2, w3, w4⟩ := q3.1 e e1
    rw [nI_clamp (n := e) (by omega), w2]
    have hcn : (spC rw b t U).getD k e_C = cs e := by rw [spC_g hkl, ← q4, e4]; rfl
    refine ok_bnd (ok_bd32 (v_M_isFine hc fu hfu st tA tZ tI tN tNs tO tOs iA iS iL iQ oS oL oT one tC hsg hA hev hI v1 hkl hU hcn w1 w1' q5 q6 s1 s2 s3 s4 s5 s6 s7 s8 s9 s10 s11 s12 s13 s14 s15 s16 s17 s18 s19 s20 s21 s22 s23 s24 s25 sz tk mg) (fun v8 y9 y10 f1 f2 f3 f4 f5 f6 f7 f8 f9 f10 f11 f12 f13 f14 f15 f16 f17 f18 f19 f20 f21 f22 f23 f24 f25 f36 f37 f38 f39 hq => ?_))
    obtain ⟨g1, g2, g3, g4⟩ := hq
    replace g1 : tf (fnS sgB rw b t k (cs e) = true) v8 := g1
    replace g2 : ∀ j, j < 8 ∨ 15 < j → y9 j = z j := g2
    replace g3 : iFi sgB rw Vd iG ev y10 := g3
    replace g4 : ftB f36 := g4
    have hz' : ∀ j, j < 8 ∨ (15 < j ∧ j ≠ 19) → y9 j = z0 j := fun j hj => (g2 j (by omega)).trans (q7 j hj)
    refine ok_tf g1 (fun q => ok_some ?_) (fun q => ok_bn (nI_1 _) ?_)
    · exact vaQ_f (s := (13, U, 0)) (v := 13) (Or.inl ⟨hs0, ht0, fun h => q (by rw [← hcn]; exact h k hkl), rfl⟩) rfl (by decide) g3 g4 hz'
    · refine ih (k + 1) m cs y9 y10 uO uH uN ch uI f1 f2 f3 f4 f5 f6 f7 f8 f9 f10 f11 f12 f13 f14 f15 f16 f17 f18 f19 f20 f21 f22 f23 f24 f25 f36 f37 f38 f39 id (by omega) (by omega) (fun j hjk => ?_) ⟨(g2 19 (by omega)).trans q1, q2, q3, q4, g3, g4, hz'⟩
      by_cases e : j = k
      · rw [e, hcn]; exact q
      · exact hj j (by omega)
