-- the reference's arrays hold blocks; isFine
/-- where a block's things lie -/
def rAl (rw : Nat → List Int32) (Vd : Nat → Nat → Prop) (sB : Nat → Nat) (tG iG oG : Nat → Nat → Nat) (st tA tZ tI tN tNs tO tOs iA iS iL iQ oS oL oT one tC : Nat → Int32) (oV : Nat → Int64) : Prop := ftB st ∧ V one 8 = 1 ∧ ∀ b t, Vd b t → (tG b t < 2200 ∧ iG b t + (txO rw b t).2.1.length ≤ 2600 ∧ oG b t + (txO rw b t).2.2.2.1.length ≤ 11600 ∧ sB b + (rw b).length ≤ 103000 ∧ (rw b).length ≤ 3000 ∧ (txO rw b t).2.1.length ≤ 73 ∧ (txO rw b t).2.2.2.1.length ≤ 400) ∧ (∀ i, i < (rw b).length → st (sB b + i) = lf (rw b) i) ∧ ((txO rw b t).1 + 4 ≤ (txO rw b t).2.2.1 ∧ (txO rw b t).2.2.1 ≤ (txO rw b t).2.2.2.2 ∧ (txO rw b t).2.2.2.2 ≤ (rw b).length ∧ (∀ x, x ∈ (txO rw b t).2.1 → x.1 + 37 ≤ x.2.1 ∧ x.2.1 + x.2.2 + 4 ≤ (rw b).length ∧ x.2.2 ≤ 1000) ∧ ∀ x, x ∈ (txO rw b t).2.2.2.1 → x.1 + 9 ≤ x.2.1 ∧ x.2.1 + x.2.2 ≤ (rw b).length ∧ x.2.2 ≤ 1000 ∧ leP (lf (rw b)) x.1 8 ≤ 2100000000000000) ∧ (tA (tG b t) = nI (sB b + (txO rw b t).1) ∧ tZ (tG b t) = nI ((txO rw b t).2.2.2.2 - (txO rw b t).1) ∧ (∀ i, i < 8 → tI (8 * tG b t + i) = nI (leP (idT rw b t) (4 * i) 4)) ∧ tN (tG b t) = nI (iG b t) ∧ tNs (tG b t) = nI (txO rw b t).2.1.length ∧ tO (tG b t) = nI (oG b t) ∧ tOs (tG b t) = nI (txO rw b t).2.2.2.1.length ∧ tC (tG b t) = nI (sB b + (txO rw b t).2.2.1)) ∧ (∀ j, j < (txO rw b t).2.1.length → iA (iG b t + j) = nI (sB b + ((txO rw b t).2.1.getD j d3).1) ∧ iS (iG b t + j) = nI (sB b + ((txO rw b t).2.1.getD j d3).2.1) ∧ iL (iG b t + j) = nI ((txO rw b t).2.1.getD j d3).2.2 ∧ iQ (iG b t + j) = nI (leP (lf (rw b)) (((txO rw b t).2.1.getD j d3).2.1 + ((txO rw b t).2.1.getD j d3).2.2) 4)) ∧ ∀ j, j < (txO rw b t).2.2.2.1.length → oV (oG b t + j) = lN (leP (lf (rw b)) ((txO rw b t).2.2.2.1.getD j d3).1 8) ∧ oS (oG b t + j) = nI (sB b + ((txO rw b t).2.2.2.1.getD j d3).2.1) ∧ oL (oG b t + j) = nI ((txO rw b t).2.2.2.1.getD j d3).2.2 ∧ oT (oG b t + j) = nI (tG b t)
set_option maxHeartbeats 1000000 in
theorem rAl_C {rw : Nat → List Int32} {Vd : Nat → Nat → Prop} {sB : Nat → Nat} {tG iG oG : Nat → Nat → Nat} {st tA tZ tI tN tNs tO tOs iA iS iL iQ oS oL oT one tC : Nat → Int32} {oV : Nat → Int64} (h : rAl rw Vd sB tG iG oG st tA tZ tI tN tNs tO tOs iA iS iL iQ oS oL oT one tC oV) : rCn rw Vd tG oG tI tO tOs oT := fun b t hv => by
  obtain ⟨-, -, h3⟩ := h
  obtain ⟨⟨a1, a2, a3, a4, a5, a6⟩, -, -, ⟨c1, c2, c3, c4, c5, c6, c7, c8⟩, -, e⟩ := h3 b t hv
  exact ⟨⟨a1, a3⟩, c3, c6, c7, fun j hj => (e j hj).2.2.2⟩
set_option maxHeartbeats 1000000 in
theorem gD_mem {α : Type} (d : α) : ∀ (L : List α) {j : Nat}, j < L.length → L.getD j d ∈ L
  | [], j, h => absurd h (Nat.not_lt_zero _)
  | x :: L, 0, _ => List.mem_cons_self
  | x :: L, j + 1, h => List.mem_cons_of_mem _ (gD_mem d L (Nat.lt_of_succ_lt_succ h))
set_option maxHeartbeats 1000000 in
theorem bl_st {st : Nat → Int32} {r : List Int32} {B : Nat} (h : ∀ i, i < r.length → st (B + i) = lf r i) {a n : Nat} (hn : a + n ≤ r.length) : bl st (B + a) n = bl (lf r) a n := bl_c _ _ _ fun i hi => by
  rw [Nat.add_assoc]
  exact h (a + i) (by omega)
set_option maxHeartbeats 1000000 in
theorem mIn_st {st : Nat → Int32} {r : List Int32} {B : Nat} (h : ∀ i, i < r.length → st (B + i) = lf r i) (sc : List Int32) (k : Nat) : ∀ (I : List In3) (j : Nat), (∀ x, x ∈ I → x.1 + 37 ≤ x.2.1 ∧ x.2.1 + x.2.2 + 4 ≤ r.length) → mIn st sc k (I.map (sh3 B)) j = mIn (lf r) sc k I j
  | [], _, _ => rfl
  | i :: I, j, hb => by
    obtain ⟨h1, h2⟩ := hb i List.mem_cons_self
    show bl st (B + i.1) 36 ++ ((if j = k then cbL sc.length ++ sc else [0]) ++ (bl st (B + i.2.1 + i.2.2) 4 ++ mIn st sc k (I.map (sh3 B)) (j + 1))) = bl (lf r) i.1 36 ++ ((if j = k then cbL sc.length ++ sc else [0]) ++ (bl (lf r) (i.2.1 + i.2.2) 4 ++ mIn (lf r) sc k I (j + 1)))
    rw [bl_st h (by omega), Nat.add_assoc, bl_st h (by omega), mIn_st h sc k I (j + 1) (fun x hx => hb x (List.mem_cons_of_mem _ hx))]
set_option maxHeartbeats 1000000 in
theorem msG_st {st : Nat → Int32} {r : List Int32} {B : Nat} (h : ∀ i, i < r.length → st (B + i) = lf r i) (sc : List Int32) (k : Nat) {T : Tx5} (h1 : T.1 + 4 ≤ T.2.2.1) (h2 : T.2.2.1 ≤ T.2.2.2.2) (h3 : T.2.2.2.2 ≤ r.length) (hI : ∀ x, x ∈ T.2.1 → x.1 + 37 ≤ x.2.1 ∧ x.2.1 + x.2.2 + 4 ≤ r.length) : msG st sc k (shT B T) = msG (lf r) sc k T := by
  unfold msG shT
  show bl st (B + T.1) 4 ++ (cbL (T.2.1.map (sh3 B)).length ++ (mIn st sc k (T.2.1.map (sh3 B)) 0 ++ (bl st (B + T.2.2.1) (B + T.2.2.2.2 - (B + T.2.2.1)) ++ [1, 0, 0, 0]))) = _
  rw [bl_st h (by omega), List.length_map, mIn_st h sc k T.2.1 0 hI, show B + T.2.2.2.2 - (B + T.2.2.1) = T.2.2.2.2 - T.2.2.1 from by omega, bl_st h (by omega)]
set_option maxHeartbeats 1000000 in
theorem rAl_m {rw : Nat → List Int32} {Vd : Nat → Nat → Prop} {sB : Nat → Nat} {tG iG oG : Nat → Nat → Nat} {st tA tZ tI tN tNs tO tOs iA iS iL iQ oS oL oT one tC : Nat → Int32} {oV : Nat → Int64} (h : rAl rw Vd sB tG iG oG st tA tZ tI tN tNs tO tOs iA iS iL iQ oS oL oT one tC oV) {b t : Nat} (hv : Vd b t) : mgE st tA tZ tN tNs iA iQ tC (shT (sB b) (txO rw b t)) (tG b t) (iG b t) := by
  obtain ⟨h1, -, h3⟩ := h
  obtain ⟨⟨a1, a2, a3, a4, a5, a6⟩, hs, ⟨b1, b2, b3, b4, b5⟩, ⟨c1, c2, c3, c4, c5, c6, c7, c8⟩, d, -⟩ := h3 b t hv
  have eL : (shT (sB b) (txO rw b t)).2.1.length = (txO rw b t).2.1.length := List.length_map ..
  refine ⟨⟨a1, by rw [eL]; exact a2, by rw [eL]; omega, ?_, ?_, ?_, ?_⟩, ⟨c1, ?_, c4, by rw [eL]; exact c5, c8⟩, fun j hj => ?_, h1⟩
  · show sB b + (txO rw b t).1 + 4 ≤ sB b + (txO rw b t).2.2.1; omega
  · show sB b + (txO rw b t).2.2.1 ≤ sB b + (txO rw b t).2.2.2.2; omega
  · show sB b + (txO rw b t).2.2.2.2 ≤ 103000; omega
  · show sB b + (txO rw b t).2.2.2.2 ≤ sB b + (txO rw b t).2.2.1 + 10000; omega
  · rw [c2]
    show nI _ = nI (sB b + (txO rw b t).2.2.2.2 - (sB b + (txO rw b t).1))
    congr 1
    omega
  · rw [eL] at hj
    obtain ⟨d1, d2, d3', d4⟩ := d j hj
    obtain ⟨m1, m2, m3⟩ := b4 _ (gD_mem d3 (txO rw b t).2.1 hj)
    have eg : (shT (sB b) (txO rw b t)).2.1.getD j d3 = sh3 (sB b) ((txO rw b t).2.1.getD j d3) := by
      show ((txO rw b t).2.1.map (sh3 (sB b))).getD j d3 = _
      rw [gD_e _ d3 (by rw [List.length_map]; exact hj), List.getElem_map, ← gD_e _ d3 hj]
    rw [eg]
    refine ⟨d1, ?_, ?_⟩
    · rw [d4]
      congr 1
      show leP (lf (rw b)) (((txO rw b t).2.1.getD j d3).2.1 + ((txO rw b t).2.1.getD j d3).2.2) 4 = leP st (sB b + ((txO rw b t).2.1.getD j d3).2.1 + ((txO rw b t).2.1.getD j d3).2.2) 4
      rw [Nat.add_assoc, ← leL_bl, ← leL_bl, bl_st hs (by omega)]
    · show sB b + ((txO rw b t).2.1.getD j d3).1 + 36 ≤ 103000
      omega
/-- the reference's memory of scripts -/
def iFi (sgB : Nat → List Int32 → List Int32 → Bool) (rw : Nat → List Int32) (Vd : Nat → Nat → Prop) (iG : Nat → Nat → Nat) (ev : Nat → Nat → List Cn → Prop) (u1 : Nat → Int32) : Prop := ∀ b t k, Vd b t → k < (txO rw b t).2.1.length → u1 (iG b t + k) = 0 ∨ ∀ U, ev b t U → (u1 (iG b t + k) = 1 ∧ fnS sgB rw b t k ((spC rw b t U).getD k e_C) = true) ∨ (u1 (iG b t + k) = 2 ∧ fnS sgB rw b t k ((spC rw b t U).getD k e_C) = false)
/-- inputs have places of their own -/
def iIj (rw : Nat → List Int32) (Vd : Nat → Nat → Prop) (iG : Nat → Nat → Nat) : Prop := ∀ b t k b' t' k', Vd b t → Vd b' t' → k < (txO rw b t).2.1.length → k' < (txO rw b' t').2.1.length → iG b t + k = iG b' t' + k' → b = b' ∧ t = t' ∧ k = k'
abbrev T32 : Type := Int32 × T31
/-- what isFine leaves -/
def ifQ (B : Bool) (J : (Nat → Int32) → Prop) (z0 : Nat → Int32) (v : Int32) (z u1 th : Nat → Int32) : Prop := tf (B = true) v ∧ (∀ j, j < 8 ∨ 15 < j → z j = z0 j) ∧ J u1 ∧ ftB th
def if32 (B : Bool) (J : (Nat → Int32) → Prop) (z0 : Nat → Int32) (x : Int32 × (Nat → Int32) × (Nat → Int32) × (Nat → Int32) × (Nat → Int32) × (Nat → Int32) × (Nat → Int32) × (Nat → Int32) × (Nat → Int32) × (Nat → Int32) × (Nat → Int32) × (Nat → Int32) × (Nat → Int32) × (Nat → Int32) × (Nat → Int32) × (Nat → Int32) × (Nat → Int32) × (Nat → Int32) × (Nat → Int32) × (Nat → Int32) × (Nat → Int32) × (Nat → Int32) × (Nat → Int32) × (Nat → Int32) × (Nat → Int32) × (Nat → Int32) × (Nat → Int32) × (Nat → Int32) × (Nat → Int32) × (Nat → Int32) × (Nat → Int32) × (Nat → Int32)) : Prop := match x with
  | (v, z, u1, _, _, _, _, _, _, _, _, _, _, _, _, _, _, _, _, _, _, _, _, _, _, _, _, _, th, _, _, _) => ifQ B J z0 v z u1 th
set_option maxHeartbeats 1000000 in
theorem v_M_isFine {F : Type} [Lean.Grind.Field F] [DecidableEq F] {c : Int → F} (hc : cH pP c) (fu : Nat) (hfu : 2 ^ 257 ≤ fu) (st tA tZ tI tN tNs tO tOs iA iS iL iQ oS oL oT one tC : Nat → Int32) {oV : Nat → Int64} {sgB : Nat → List Int32 → List Int32 → Bool} (hsg : ∀ e K G, sgB e K G = true ↔ sgO c e K G) {rw : Nat → List Int32} {Vd : Nat → Nat → Prop} {sB : Nat → Nat} {tG iG oG : Nat → Nat → Nat} (hA : rAl rw Vd sB tG iG oG st tA tZ tI tN tNs tO tOs iA iS iL iQ oS oL oT one tC oV) {ev : Nat → Nat → List Cn → Prop} (hev : ∀ b t U U', ev b t U → ev b t U' → U = U') (hI : iIj rw Vd iG) {b t k : Nat} (hV : Vd b t) (hk : k < (txO rw b t).2.1.length) {U : List Cn} (hU : ev b t U) {cn : Cn} (hcn : (spC rw b t U).getD k e_C = cn) (hVc : Vd cn.1 cn.2.1) (hjc : cn.2.2 < (txO rw cn.1 cn.2.1).2.2.2.1.length) {z u1 th : Nat → Int32} (hi : iFi sgB rw Vd iG ev u1) (hT : ftB th) (s1 s2 s3 s4 s5 s6 s7 s8 s9 s10 s11 s12 s13 s14 s15 s16 s17 s18 s19 s20 s21 s22 s23 s24 s25 sz tk mg : Nat → Int32) : ok (x_M_isFine fu st tA tZ tN tNs iA iS iL iQ oS oL one tC (nI (tG b t)) (nI (iG b t + k)) (nI (oG cn.1 cn.2.1 + cn.2.2)) z u1 s1 s2 s3 s4 s5 s6 s7 s8 s9 s10 s11 s12 s13 s14 s15 s16 s17 s18 s19 s20 s21 s22 s23 s24 s25 th sz tk mg) (if32 (fnS sgB rw b t k cn) (iFi sgB rw Vd iG ev) z) := by
  have h1600 : 1600 ≤ fu := Nat.le_trans (by decide) hfu
  obtain ⟨⟨a1, a2, a3, a4, a5, a6⟩, hs, ⟨b1, b2, b3, b4, b5⟩, -, d, -⟩ := hA.2.2 b t hV
  obtain ⟨⟨a1', a2', a3', a4', a5', a6'⟩, hs', ⟨-, -, -, -, b5'⟩, -, -, e'⟩ := hA.2.2 cn.1 cn.2.1 hVc
  obtain ⟨d1, d2, d3', d4⟩ := d k hk
  obtain ⟨e1, e2, e3, e4⟩ := e' cn.2.2 hjc
  obtain ⟨m1, m2, m3⟩ := b4 _ (gD_mem d3 (txO rw b t).2.1 hk)
  obtain ⟨n1, n2, n3, n4⟩ := b5' _ (gD_mem d3 (txO rw cn.1 cn.2.1).2.2.2.1 hjc)
  unfold x_M_isFine
  rw [nI_clamp (n := iG b t + k) (by omega), nI_clamp (n := oG cn.1 cn.2.1 + cn.2.2) (by omega), d2, d3', e2, e3]
  refine ok_gd (inb_nI (by omega) (by decide)) (ok_bnd ?_)
  have E : ∀ (v : Int32) (z' u1' s1 s2 s3 s4 s5 s6 s7 s8 s9 s10 s11 s12 s13 s14 s15 s16 s17 s18 s19 s20 s21 s22 s23 s24 s25 th' sz tk mg : Nat → Int32), u1' (iG b t + k) = v → ((v = 1 ∧ fnS sgB rw b t k cn = true) ∨ (v = 2 ∧ fnS sgB rw b t k cn = false)) → (∀ j, j < 8 ∨ 15 < j → z' j = z j) → iFi sgB rw Vd iG ev u1' → ftB th' → ok (xb_M_isFine_86 fu st tA tZ tN tNs iA iS iL iQ oS oL one tC (nI (iG b t + k)) z' u1' s1 s2 s3 s4 s5 s6 s7 s8 s9 s10 s11 s12 s13 s14 s15 s16 s17 s18 s19 s20 s21 s22 s23 s24 s25 th' sz tk mg) (if32 (fnS sgB rw b t k cn) (iFi sgB rw Vd iG ev) z) := fun v z' u1' s1 s2 s3 s4 s5 s6 s7 s8 s9 s10 s11 s12 s13 s14 s15 s16 s17 s18 s19 s20 s21 s22 s23 s24 s25 th' sz tk mg hu hv hz hi' hT' => by
    unfold xb_M_isFine_86
    refine ok_gd (inb_nI (by omega) (by decide)) ?_
    rw [nI_clamp (n := iG b t + k) (by omega), hu]
    refine ok_bnd ?_
    rcases hv with ⟨rfl, hv⟩ | ⟨rfl, hv⟩
    · exact ok_t rfl (ok_some ⟨tf_1 hv, hz, hi', hT'⟩)
    · exact ok_f (by decide) (ok_some ⟨tf_0 (by rw [hv]; decide), hz, hi', hT'⟩)
  by_cases c0 : u1 (iG b t + k) = 0
  · refine ok_t c0 (ok_bnd (ok_bnd (ok_gd (inb_nI (by omega) (by decide)) (ok_bnd (ok_bnd (ok_gd (inb_nI (by omega) (by decide)) (ok_bnd (ok_bnd (ok_gd (inb_nI (by omega) (by decide)) (ok_bnd (ok_gd (inb_nI (by omega) (by decide)) (ok_bnd (ok_gd (inb_nI (by omega) (by decide)) (ok_bnd (ok_gd (inb_nI (by omega) (by decide)) (ok_bnd ?_))))))))))))))))
    obtain ⟨z7, hz7⟩ : ∃ z7, z7 = upd (upd (upd (upd z 12 (nI (iG b t + k))) 13 (nI (tG b t))) 14 (nI (sB cn.1 + ((txO rw cn.1 cn.2.1).2.2.2.1.getD cn.2.2 d3).2.1))) 15 (nI ((txO rw cn.1 cn.2.1).2.2.2.1.getD cn.2.2 d3).2.2) := ⟨_, rfl⟩
    have z12 : z7 12 = nI (iG b t + k) := by rw [hz7, pk_un (by decide), pk_un (by decide), pk_un (by decide), pk_us]
    have z13 : z7 13 = nI (tG b t) := by rw [hz7, pk_un (by decide), pk_un (by decide), pk_us]
    have z14 : z7 14 = nI (sB cn.1 + ((txO rw cn.1 cn.2.1).2.2.2.1.getD cn.2.2 d3).2.1) := by rw [hz7, pk_un (by decide), pk_us]
    have z15 : z7 15 = nI ((txO rw cn.1 cn.2.1).2.2.2.1.getD cn.2.2 d3).2.2 := by rw [hz7, pk_us]
    have hzz : ∀ j, j < 8 ∨ 15 < j → z7 j = z j := fun j hj => by rw [hz7, pk_un (by omega), pk_un (by omega), pk_un (by omega), pk_un (by omega)]
    rw [← hz7, f1_true]
    have eS : bl st (sB cn.1 + ((txO rw cn.1 cn.2.1).2.2.2.1.getD cn.2.2 d3).2.1) ((txO rw cn.1 cn.2.1).2.2.2.1.getD cn.2.2 d3).2.2 = cnS rw cn := bl_st hs' (by omega)
    have eG : bl st (sB b + ((txO rw b t).2.1.getD k d3).2.1) ((txO rw b t).2.1.getD k d3).2.2 = bl (lf (rw b)) ((txO rw b t).2.1.getD k d3).2.1 ((txO rw b t).2.1.getD k d3).2.2 := bl_st hs (by omega)
    have hE : sgE fu st tA tZ tN tNs iA iQ one tC z7 (sgB (hN (msG (lf (rw b)) (cnS rw cn) k (txO rw b t)))) := by
      refine sgE_m hc fu hfu st tA tZ tN tNs iA iQ one tC hA.2.1 (rAl_m hA hV) z12 z13 z14 z15 (by omega) (by omega) (by omega) _ (fun K G => ?_)
      rw [eS, msG_st hs (cnS rw cn) k b1 b2 b3 (fun x hx => ⟨(b4 x hx).1, (b4 x hx).2.1⟩)]
      exact hsg _ K G
    refine ok_bd31 (v_M_isTrue0 fu h1600 _ st tA tZ tN tNs iA iQ one tC hE (n1 := 103000) (by decide) hA.1 (by omega) (by omega) (by omega) (by omega) (zf_r z7) hT s1 s2 s3 s4 s5 s6 s7 s8 s9 s10 s11 s12 s13 s14 s15 s16 s17 s18 s19 s20 s21 s22 s23 s24 s25 sz tk mg) (fun v12 f2 f3 f4 f5 f6 f7 f8 f9 f10 f11 f12 f13 f14 f15 f16 f17 f18 f19 f20 f21 f22 f23 f24 f25 f26 f27 f28 f29 f30 f31 hq => ?_)
    obtain ⟨q1, q2, q3⟩ := hq
    replace q1 : tf (scrS (sgB (hN (msG (lf (rw b)) (cnS rw cn) k (txO rw b t)))) hsF (bl st (sB b + ((txO rw b t).2.1.getD k d3).2.1) ((txO rw b t).2.1.getD k d3).2.2) (bl st (sB cn.1 + ((txO rw cn.1 cn.2.1).2.2.2.1.getD cn.2.2 d3).2.1) ((txO rw cn.1 cn.2.1).2.2.2.1.getD cn.2.2 d3).2.2) = true) v12 := q1
    replace q2 : zf z7 f2 := q2
    replace q3 : ftB f28 := q3
    rw [eS, eG] at q1
    have hzf : ∀ j, j < 8 ∨ 15 < j → f2 j = z j := fun j hj => (q2 j (by omega) (by omega) (by omega) (by omega)).trans (hzz j hj)
    have hi' : ∀ (B : Bool) (x : Int32), ((x = 1 ∧ B = true) ∨ (x = 2 ∧ B = false)) → fnS sgB rw b t k cn = B → iFi sgB rw Vd iG ev (upd u1 (iG b t + k) x) := fun B x hx hB b' t' k' hV' hk' => by
      by_cases e : iG b' t' + k' = iG b t + k
      · obtain ⟨r1, r2, r3⟩ := hI b' t' k' b t k hV' hV hk' hk e
        subst r1 r2 r3
        refine Or.inr fun U' hU' => ?_
        rw [hev _ _ _ _ hU' hU, hcn, hB, pk_us]
        exact hx
      · rw [pk_un e]
        exact hi b' t' k' hV' hk'
    unfold xb_M_isFine_84
    refine ok_tf q1 (fun q => ?_) (fun q => ?_)
    · refine ok_bnd (ok_gd (inb_nI (by omega) (by decide)) ?_)
      rw [nI_clamp (n := iG b t + k) (by omega), show vp_nar .byte ((2 : Int32).toInt8.toInt32) = (2 : Int32) from by decide]
      have hB : fnS sgB rw b t k cn = false := Bool.eq_false_iff.mpr q
      exact ok_bnd (E 2 f2 _ f3 f4 f5 f6 f7 f8 f9 f10 f11 f12 f13 f14 f15 f16 f17 f18 f19 f20 f21 f22 f23 f24 f25 f26 f27 f28 f29 f30 f31 pk_us (Or.inr ⟨rfl, hB⟩) hzf (hi' false 2 (Or.inr ⟨rfl, rfl⟩) hB) q3)
    · refine ok_bnd (ok_gd (inb_nI (by omega) (by decide)) ?_)
      rw [nI_clamp (n := iG b t + k) (by omega), show vp_nar .byte ((1 : Int32).toInt8.toInt32) = (1 : Int32) from by decide]
      exact ok_bnd (E 1 f2 _ f3 f4 f5 f6 f7 f8 f9 f10 f11 f12 f13 f14 f15 f16 f17 f18 f19 f20 f21 f22 f23 f24 f25 f26 f27 f28 f29 f30 f31 pk_us (Or.inl ⟨rfl, q⟩) hzf (hi' true 1 (Or.inl ⟨rfl, rfl⟩) q) q3)
  · refine ok_f c0 ?_
    rcases hi b t k hV hk with h0 | h0
    · exact absurd h0 c0
    · have := h0 U hU
      rw [hcn] at this
      exact E _ z u1 s1 s2 s3 s4 s5 s6 s7 s8 s9 s10 s11 s12 s13 s14 s15 s16 s17 s18 s19 s20 s21 s22 s23 s24 s25 th sz tk mg rfl this (fun _ _ => rfl) hi hT
