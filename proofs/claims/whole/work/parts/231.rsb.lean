-- the reference's submit
abbrev T76 : Type := Int32 × (Nat → Int32) × (Nat → Int32) × (Nat → Int32) × (Nat → Int32) × (Nat → Int32) × (Nat → Int32) × (Nat → Int32) × (Nat → Int32) × (Nat → Int32) × (Nat → Int32) × (Nat → Int32) × (Nat → Int32) × (Nat → Int32) × (Nat → Int32) × (Nat → Int32) × (Nat → Int32) × (Nat → Int32) × (Nat → Int32) × (Nat → Int32) × (Nat → Int32) × (Nat → Int32) × (Nat → Int32) × (Nat → Int32) × (Nat → Int32) × (Nat → Int32) × (Nat → Int64) × (Nat → Int32) × (Nat → Int32) × (Nat → Int32) × (Nat → Int32) × (Nat → Int32) × (Nat → Int32) × (Nat → Int32) × (Nat → Int32) × (Nat → Int32) × (Nat → Int32) × (Nat → Int32) × (Nat → Int32) × (Nat → Int32) × (Nat → Int32) × (Nat → Int32) × (Nat → Int32) × (Nat → Int32) × (Nat → Int32) × (Nat → Int32) × (Nat → Int32) × (Nat → Int32) × (Nat → Int32) × (Nat → Int32) × (Nat → Int32) × (Nat → Int32) × (Nat → Int32) × (Nat → Int32) × (Nat → Int32) × (Nat → Int32) × (Nat → Int32) × (Nat → Int32) × (Nat → Int32) × (Nat → Int32) × (Nat → Int32) × (Nat → Int32) × (Nat → Int32) × (Nat → Int32) × (Nat → Int32) × (Nat → Int32) × (Nat → Int32) × (Nat → Int32) × (Nat → Int32) × (Nat → Int32) × (Nat → Int32) × (Nat → Int32) × (Nat → Int32) × (Nat → Int32) × (Nat → Int32) × (Nat → Int32)
/-- the reference's object keeps this state -/
def rSt (sgB : Nat → List Int32 → List Int32 → Bool) (one : Nat → Int32) (S : Ab) (u0 u1 u3 u4 u5 u6 u7 u8 u9 u10 u11 u12 u13 u14 u15 u16 u17 u18 u20 u21 u22 u23 u24 : Nat → Int32) (u25 : Nat → Int64) (u26 u27 u28 u29 u30 u31 u32 u33 u65 u69 : Nat → Int32) : Prop := aIS sgB S ∧ (rC1 S.1 S.2.1 S.2.2.1 S.2.2.2.1 S.2.2.2.2.1 S.2.2.2.2.2.1 S.2.2.2.2.2.2.1 u3 u4 u5 u6 u7 u8 u9 u10 u11) ∧ (rC2 S.1 S.2.2.2.2.2.2.1 u1 one u12 u13 u14 u15 u16 u17 u18 u20 u21 u22 u23 u26 u27 u28 u69 u25) ∧ (rC3 sgB S.1 S.2.1 S.2.2.1 S.2.2.2.2.2.2.1 u24) ∧ (rCz S.1 S.2.2.2.2.2.2.1 u0) ∧ (rCu S.1 S.2.2.1 S.2.2.2.2.2.2.1 S.2.2.2.2.2.2.2.1 S.2.2.2.2.2.2.2.2 u0 u29 u30 u31 u32 u33) ∧ ftB u65
def sbT (sgB : Nat → List Int32 → List Int32 → Bool) (one : Nat → Int32) (S : Ab) (R : List Int32) (x : T76) : Prop := match x with
  | (a, v0, v1, v2, v3, v4, v5, v6, v7, v8, v9, v10, v11, v12, v13, v14, v15, v16, v17, v18, v19, v20, v21, v22, v23, v24, v25, v26, v27, v28, v29, v30, v31, v32, v33, v34, v35, v36, v37, v38, v39, v40, v41, v42, v43, v44, v45, v46, v47, v48, v49, v50, v51, v52, v53, v54, v55, v56, v57, v58, v59, v60, v61, v62, v63, v64, v65, v66, v67, v68, v69, v70, v71, v72, v73, v74) => ∃ w S', a = nI w ∧ w ≤ 14 ∧ sbR sgB S R w S' ∧ rSt sgB one S' v0 v1 v3 v4 v5 v6 v7 v8 v9 v10 v11 v12 v13 v14 v15 v16 v17 v18 v20 v21 v22 v23 v24 v25 v26 v27 v28 v29 v30 v31 v32 v33 v65 v69 ∧ v0 0 = 0 ∧ v0 2 = 0
set_option maxHeartbeats 8000000 in
theorem evW_14 {sgB : Nat → List Int32 → List Int32 → Bool} {rw : Nat → List Int32} {hgt : Nat → Nat} : ∀ bs U w x U', evW sgB rw hgt bs U w x U' → w ≤ 14
  | [], U, w, x, U', h => by rw [h.1]; decide
  | b :: bs, U, w, x, U', h => by
    obtain ⟨v, V, ⟨r, h1, h2⟩, h3⟩ := h
    have hs : ∀ {t U s}, stp sgB rw hgt b t U s → s.1 ≤ 14 := fun {t U s} g => by
      rcases g with ⟨-, -, -, g⟩ | ⟨-, g⟩
      · rw [g]; decide
      · rw [g]
        unfold stp0
        by_cases q1 : t = 0
        · rw [if_pos q1]; show (0 : Nat) ≤ 14; decide
        rw [if_neg q1]
        by_cases q2 : none ∈ spn rw b t U
        · rw [if_pos q2]; show (10 : Nat) ≤ 14; decide
        rw [if_neg q2]
        by_cases q3 : ((spC rw b t U).any (unR hgt b)) = true
        · rw [if_pos q3]; show (11 : Nat) ≤ 14; decide
        rw [if_neg q3]
        by_cases q4 : sumL (cnV rw) (spC rw b t U) < ouS rw b t
        · rw [if_pos q4]; show (12 : Nat) ≤ 14; decide
        rw [if_neg q4]
        exact Nat.zero_le _
    have hv : ∀ n t U fee r, vlR sgB rw hgt b n t U fee r → r.1 ≤ 14 := fun n => by
      induction n with
      | zero => intro t U fee r g; replace g : r = (0, U, fee) := g; rw [g]; exact Nat.zero_le _
      | succ n ih =>
        intro t U fee r g
        obtain ⟨s, g1, g2⟩ := g
        rcases g2 with ⟨-, g2⟩ | ⟨-, g2⟩
        · rw [g2]; exact hs g1
        · exact ih _ _ _ _ g2
    rcases h3 with ⟨-, h3, -⟩ | ⟨-, h3⟩
    · rw [h3]
      rcases h2 with ⟨-, h2⟩ | ⟨-, -, h2⟩
      · rw [h2]; exact hv _ _ _ _ _ h1
      · rw [h2]
        by_cases q : sbs (hgt b) + r.2.2 < ouS rw b 0
        · rw [if_pos q]; decide
        · rw [if_neg q]; decide
    · exact evW_14 bs V w x U' h3
set_option maxHeartbeats 8000000 in
theorem v_M_submit {Fd : Type} [Lean.Grind.Field Fd] [DecidableEq Fd] {c : Int → Fd} (hc : cH pP c) (fu : Nat) (hfu : 2 ^ 257 ≤ fu) {sgB : Nat → List Int32 → List Int32 → Bool} (hsg : ∀ e K G, sgB e K G = true ↔ sgO c e K G) (row one : Nat → Int32) {S : Ab} {R : List Int32} (hrow : ftB row) (hRl : R.length ≤ 3000) (hR : ∀ j, j < R.length → row j = lf R j) (hRf : ftB (lf R)) (u0 u1 u2 u3 u4 u5 u6 u7 u8 u9 u10 u11 u12 u13 u14 u15 u16 u17 u18 u19 u20 u21 u22 u23 u24 : Nat → Int32) (u25 : Nat → Int64) (u26 u27 u28 u29 u30 u31 u32 u33 u34 u35 u36 u37 u38 u39 u40 u41 u42 u43 u44 u45 u46 u47 u48 u49 u50 u51 u52 u53 u54 u55 u56 u57 u58 u59 u60 u61 u62 u63 u64 u65 u66 u67 u68 u69 u70 u71 u72 u73 u74 : Nat → Int32) (h0 : u0 0 = nI R.length) (hn : S.1 ≤ 57) (hs : sBr S.2.2.2.2.2.2.1 S.1 + R.length ≤ 17000) (h : rSt sgB one S u0 u1 u3 u4 u5 u6 u7 u8 u9 u10 u11 u12 u13 u14 u15 u16 u17 u18 u20 u21 u22 u23 u24 u25 u26 u27 u28 u29 u30 u31 u32 u33 u65 u69) : ok (x_M_submit fu row one u0 u1 u2 u3 u4 u5 u6 u7 u8 u9 u10 u11 u12 u13 u14 u15 u16 u17 u18 u19 u20 u21 u22 u23 u24 u25 u26 u27 u28 u29 u30 u31 u32 u33 u34 u35 u36 u37 u38 u39 u40 u41 u42 u43 u44 u45 u46 u47 u48 u49 u50 u51 u52 u53 u54 u55 u56 u57 u58 u59 u60 u61 u62 u63 u64 u65 u66 u67 u68 u69 u70 u71 u72 u73 u74) (sbT sgB one S R) := by
  have hf5 : 5000 ≤ fu := Nat.le_trans (Nat.le_trans (by decide : 5000 ≤ 2 ^ 13) (Nat.pow_le_pow_right (by decide) (by decide))) hfu
  obtain ⟨nb, par, hgt, tim, bit, bad, rw, tip, U⟩ := S
  obtain ⟨hI, k1, k2, k3, kz, ku, hth⟩ := h
  replace hI : aI sgB nb par hgt tim bit bad rw tip U := hI
  replace k1 : rC1 nb par hgt tim bit bad rw u3 u4 u5 u6 u7 u8 u9 u10 u11 := k1
  replace k2 : rC2 nb rw u1 one u12 u13 u14 u15 u16 u17 u18 u20 u21 u22 u23 u26 u27 u28 u69 u25 := k2
  replace k3 : rC3 sgB nb par hgt rw u24 := k3
  replace kz : rCz nb rw u0 := kz
  replace ku : rCu nb hgt rw tip U u0 u29 u30 u31 u32 u33 := ku
  replace hn : nb ≤ 57 := hn
  replace hs : sBr rw nb + R.length ≤ 17000 := hs
  have hcnt := cnt_n hI.2.1 nb (Nat.le_refl _)
  have hI' := hI
  obtain ⟨⟨n1, n2⟩, i2, i3, i4, i5, i6, i7, ⟨i8, y, i9⟩, i10⟩ := hI'
  obtain ⟨z1, z3, z5, z6, z7⟩ := kz
  obtain ⟨z4, N, cs, z19, hN, hTab, hliv⟩ := ku
  have hst := k2.1
  have hone := k2.2.1
  unfold x_M_submit
  rw [z3, z1, h0]
  refine ok_bn (e' := nI (nb - 1)) (nI_sb (b := 1) n1) ?_
  refine ok_f (fun q => absurd ((nI_eq32 (a := nb - 1) (b := 200) (by omega) (by omega)).mp q) (by omega)) ?_
  refine ok_bn (e' := nI (sBr rw nb + R.length)) (nI_add _ _) ?_
  refine ok_t ((nI_leI (a := sBr rw nb + R.length) (b := 100000) (by omega) (by omega)).mpr (by omega)) ?_
  unfold xb_M_submit_33
  refine ok_bnd ?_
  have a0 : upd u0 2 (0 : Int32) 0 = nI R.length := by rw [pk_un (by decide)]; exact h0
  have a1 : upd u0 2 (0 : Int32) 1 = nI (sBr rw nb) := by rw [pk_un (by decide)]; exact z1
  have a2 : upd u0 2 (0 : Int32) 2 = 0 := pk_us
  have aj : ∀ j, j ≠ 2 → upd u0 2 (0 : Int32) j = u0 j := fun j hj => pk_un hj
  generalize upd u0 2 (0 : Int32) = zz at *
  rw [a0, a1, a2]
  refine ok_t (by decide) ?_
  refine ok_gd (cpk_nI (a := 0) (b := sBr rw nb) (n := R.length) (by omega) (by omega) (by decide) (by decide)) (ok_gd (bfit_nI (a := 0) (n := R.length) (by decide) (by omega) (fun j _ => hrow _)) ?_)
  rw [nI_clamp (n := sBr rw nb) (by omega), nI_clamp (n := R.length) (by omega)]
  refine ok_bnd ?_
  have s1 : ∀ j, j < R.length → va_cpy row u1 (Int32.toNatClampNeg 0) (sBr rw nb) R.length (sBr rw nb + j) = lf R j := fun j hj => by
    rw [pk_cpy_in (by omega) (by omega), show Int32.toNatClampNeg 0 + (sBr rw nb + j - sBr rw nb) = j from by show 0 + _ = j; omega]
    exact hR j hj
  have s2 : ∀ j, j < sBr rw nb → va_cpy row u1 (Int32.toNatClampNeg 0) (sBr rw nb) R.length j = u1 j := fun j hj => pk_cpy_out (by omega)
  have s3 : ftB (va_cpy row u1 (Int32.toNatClampNeg 0) (sBr rw nb) R.length) := fun j => by
    by_cases q : sBr rw nb ≤ j ∧ j < sBr rw nb + R.length
    · rw [pk_cpy_in q.1 q.2]; exact hrow _
    · rw [pk_cpy_out (by omega)]; exact hst j
  generalize va_cpy row u1 (Int32.toNatClampNeg 0) (sBr rw nb) R.length = st' at *
  refine ok_bn (e' := nI (sBr rw nb + R.length)) (nI_add _ _) (ok_bnd ?_)
  have b0 : upd zz 17 (nI (sBr rw nb + R.length)) 0 = nI R.length := by rw [pk_un (by decide)]; exact a0
  have b1 : upd zz 17 (nI (sBr rw nb + R.length)) 1 = nI (sBr rw nb) := by rw [pk_un (by decide)]; exact a1
  have b2 : upd zz 17 (nI (sBr rw nb + R.length)) 2 = 0 := by rw [pk_un (by decide)]; exact a2
  have b17 : upd zz 17 (nI (sBr rw nb + R.length)) 17 = nI (sBr rw nb + R.length) := pk_us
  have bj : ∀ j, j ≠ 2 → j ≠ 17 → upd zz 17 (nI (sBr rw nb + R.length)) j = u0 j := fun j hj hj' => by rw [pk_un hj', aj j hj]
  generalize upd zz 17 (nI (sBr rw nb + R.length)) = zt at *
  rw [b0, b1]
  refine ok_bd46 (v_M_take fu hf5 st' one s3 hone (rw := rw) (nb := nb) (par := par) (hgt := hgt) (tim := tim) (bit := bit) (bad := bad) (r := R) (B := sBr rw nb) (t := tBr rw nb) (i := iBr rw nb) (o := oBr rw nb) s1 hRl (by omega) ⟨n1, by omega⟩ (by omega) (by omega) (by omega) zt u2 u3 u4 u5 u6 u7 u8 u9 u10 u11 u12 u13 u14 u15 u16 u17 u18 u19 u20 u21 u22 u23 u24 u25 u26 u27 u28 u34 u35 u36 u37 u38 u39 u40 u41 u42 u43 u44 u65 u66 u69 u70 u71 u72 k1.1 (fun k hk => Nat.le_trans (aI_h hI k hk) (by omega)) k1.2.1 k1.2.2.1 (fun k hk => by have := aI_w hI k hk; rw [k1.2.2.2.1 k hk]; have q : (k + 1) * 2 ^ 23 ≤ 60 * 2 ^ 23 := Nat.mul_le_mul_right _ (by omega); omega) (by rw [bj 3 (by decide) (by decide)]; exact z3) (by rw [bj 5 (by decide) (by decide)]; exact z5) (by rw [bj 6 (by decide) (by decide)]; exact z6) (by rw [bj 7 (by decide) (by decide)]; exact z7) b17 hth) (fun a z' v1 v2 v3 v4 v5 v6 v7 v8 v9 v10 v11 v12 v13 v14 v15 v16 v17 v18 v19 v20 v21 v22 v23 v24 v25 v26 v27 v28 v29 v30 v31 v32 v33 v34 v35 v36 v37 v38 v39 v40 v41 v42 v43 v44 hq => ?_)
  obtain ⟨cc, p, e1, c9, hr, hcm, hnw⟩ := hq
  replace e1 : a = nI cc := e1
  replace hcm : cmT nb (tBr rw nb) (iBr rw nb) (oBr rw nb) zt u2 u3 u4 u5 u6 u7 u8 u9 u10 u11 u12 u13 u14 u15 u16 u17 u18 u19 u20 u21 u22 u23 u24 u25 u26 u27 u28 u34 u35 u36 u37 u69 z' v1 v2 v3 v4 v5 v6 v7 v8 v9 v10 v11 v12 v13 v14 v15 v16 v17 v18 v19 v20 v21 v22 v23 v24 v25 v26 v27 v41 v39 := hcm
  replace hnw : cc = 0 → nwT hgt st' R (sBr rw nb) nb (tBr rw nb) (iBr rw nb) (oBr rw nb) p u10 z' v1 v2 v3 v4 v5 v6 v7 v8 v9 v10 v11 v12 v13 v14 v15 v16 v17 v18 v19 v20 v21 v22 v23 v24 v25 v26 v27 v41 := hnw
  subst e1
  have zj : ∀ j, j ≠ 2 → j ≠ 17 → j ≠ 5 → j ≠ 6 → j ≠ 7 → j ≠ 9 → j ≠ 16 → j ≠ 18 → z' j = u0 j := fun j q1 q2 q3 q4 q5 q6 q7 q8 => by rw [hcm.1 j q3 q4 q5 q6 q7 q8]; exact bj j q1 q2
  have z'2 : z' 2 = 0 := by rw [hcm.1 2 (by decide) (by decide) (by decide) (by decide) (by decide) (by decide)]; exact b2
  have z'1 : z' 1 = nI (sBr rw nb) := by rw [zj 1 (by decide) (by decide) (by decide) (by decide) (by decide) (by decide) (by decide) (by decide)]; exact z1
  have z'3 : z' 3 = nI nb := by rw [zj 3 (by decide) (by decide) (by decide) (by decide) (by decide) (by decide) (by decide) (by decide)]; exact z3
  have z'4 : z' 4 = nI tip := by rw [zj 4 (by decide) (by decide) (by decide) (by decide) (by decide) (by decide) (by decide) (by decide)]; exact z4
  have z'19 : z' 19 = nI N := by rw [zj 19 (by decide) (by decide) (by decide) (by decide) (by decide) (by decide) (by decide) (by decide)]; exact z19
  refine ok_bnd ?_
  by_cases hcc : cc = 0
  case neg =>
    obtain ⟨r1, r2, r3⟩ := rC_keep hI s3 k1 k2 k3 s2 hcm
    refine ok_f (fun q => absurd ((nI_leI (a := cc) (b := 0) (by omega) (by omega)).mp q) (by omega)) (ok_bnd (ok_bnd (ok_bnd (ok_some ?_))))
    refine ⟨cc, (nb, par, hgt, tim, bit, bad, rw, tip, U), rfl, by omega, ⟨cc, p, hr, Or.inl ⟨hcc, rfl, rfl⟩⟩, ⟨hI, r1, r2, r3, ⟨?_, ?_, ?_, ?_, ?_⟩, ⟨?_, N, cs, ?_, hN, hTab, hliv⟩, hcm.2.2.2⟩, ?_, ?_⟩
    · rw [pk_un (by decide), pk_un (by decide), pk_un (by decide), pk_un (by decide)]; exact z'1
    · rw [pk_un (by decide), pk_un (by decide), pk_un (by decide), pk_un (by decide)]; exact z'3
    · rw [pk_un (by decide), pk_un (by decide), pk_us, aj 5 (by decide)]; exact z5
    · rw [pk_un (by decide), pk_us, aj 6 (by decide)]; exact z6
    · rw [pk_us, aj 7 (by decide)]; exact z7
    · rw [pk_un (by decide), pk_un (by decide), pk_un (by decide), pk_un (by decide)]; exact z'4
    · rw [pk_un (by decide), pk_un (by decide), pk_un (by decide), pk_un (by decide)]; exact z'19
    · rw [pk_un (by decide), pk_un (by decide), pk_un (by decide), pk_us]
    · rw [pk_un (by decide), pk_un (by decide), pk_un (by decide), pk_un (by decide)]; exact z'2
  subst hcc
  refine ok_t (by decide) ?_
  obtain ⟨r1, r2, r3, w5, w6, w7⟩ := rC_ext hI hn hr hRf hRl hs s3 k1 k2 k3 s2 s1 hcm (hnw rfl)
  have hX := aI_ext hI hn hr hRf hRl hs
  have ag : agr nb rw hgt (upW rw nb R) (upW hgt nb (hgt p + 1)) := fun b hb => ⟨upW_n (by omega), upW_n (by omega)⟩
  have eS1 : sBr (upW rw nb R) (nb + 1) = sBr rw nb + R.length := by
    show sBr (upW rw nb R) nb + (upW rw nb R nb).length = _
    rw [ag_sB ag (Nat.le_refl nb), upW_s]
  have eN : nI nb + 1 = nI (nb + 1) := nI_add nb 1
  have x0 : upd (upd (upd z' 0 0) 1 (nI (sBr rw nb + R.length))) 3 (nI (nb + 1)) 0 = 0 := by rw [pk_un (by decide), pk_un (by decide), pk_us]
  have x1 : upd (upd (upd z' 0 0) 1 (nI (sBr rw nb + R.length))) 3 (nI (nb + 1)) 1 = nI (sBr (upW rw nb R) (nb + 1)) := by rw [pk_un (by decide), pk_us, eS1]
  have x3 : upd (upd (upd z' 0 0) 1 (nI (sBr rw nb + R.length))) 3 (nI (nb + 1)) 3 = nI (nb + 1) := pk_us
  have xj : ∀ j, j ≠ 0 → j ≠ 1 → j ≠ 3 → upd (upd (upd z' 0 0) 1 (nI (sBr rw nb + R.length))) 3 (nI (nb + 1)) j = z' j := fun j q0 q1 q3 => by rw [pk_un q3, pk_un q1, pk_un q0]
  have y1 : upd z' 0 (0 : Int32) 1 = nI (sBr rw nb) := by rw [pk_un (by decide)]; exact z'1
  rw [y1]
  refine ok_bn (e' := nI (sBr rw nb + R.length)) (nI_add _ _) (ok_bnd ?_)
  have y3 : upd (upd z' 0 0) 1 (nI (sBr rw nb + R.length)) 3 = nI nb := by rw [pk_un (by decide), pk_un (by decide)]; exact z'3
  rw [y3]
  refine ok_bn eN (ok_bnd ?_)
  generalize upd (upd (upd z' 0 0) 1 (nI (sBr rw nb + R.length))) 3 (nI (nb + 1)) = zx at *
  have x4 : zx 4 = nI tip := by rw [xj 4 (by decide) (by decide) (by decide)]; exact z'4
  have x19 : zx 19 = nI N := by rw [xj 19 (by decide) (by decide) (by decide)]; exact z'19
  rw [← xj 5 (by decide) (by decide) (by decide)] at w5
  rw [← xj 6 (by decide) (by decide) (by decide)] at w6
  rw [← xj 7 (by decide) (by decide) (by decide)] at w7
  have x2 : zx 2 = 0 := by rw [xj 2 (by decide) (by decide) (by decide)]; exact z'2
  rw [x4]
  refine ok_bd1 (Q := fun v => v = cmpN (wrk (upW par nb p) (upW bit nb (rBi R)) nb) (wrk (upW par nb p) (upW bit nb (rBi R)) tip)) (by rw [v_M_compareWork fu (by omega) zx v9 (by omega) (by omega), r1.2.2.2.1 nb (by omega), r1.2.2.2.1 tip (by omega)]; exact ok_some rfl) (fun v56 hv => ?_)
  subst hv
  have hz1 : rCz (nb + 1) (upW rw nb R) zx := ⟨x1, x3, w5, w6, w7⟩
  by_cases hwk : wrk (upW par nb p) (upW bit nb (rBi R)) nb ≤ wrk (upW par nb p) (upW bit nb (rBi R)) tip
  · refine ok_f (fun q => absurd ((cmpN_gt _ _).mp q) (Nat.not_lt_of_le hwk)) (ok_some ?_)
    exact ⟨1, exA (nb, par, hgt, tim, bit, bad, rw, tip, U) p R, rfl, by decide, ⟨0, p, hr, Or.inr ⟨rfl, Or.inl ⟨hwk, rfl, rfl⟩⟩⟩, ⟨hX, r1, r2, r3, hz1, ⟨x4, N, cs, x19, hN, rTab_g ag hTab, hliv⟩, hcm.2.2.2⟩, x0, x2⟩
  have hwk' := Nat.lt_of_not_le hwk
  refine ok_t ((cmpN_gt _ _).mpr hwk') ?_
  have hp1 := hX.2.2.1
  have hgp : ∀ k, 0 < k → k < nb + 1 → v2 k = nI (upW par nb p k) := fun k hk hk' => (r1.1.2.2 k hk').1 hk
  have hcx := cnt_n hX.2.1 (nb + 1) (Nat.le_refl _)
  have h17 := hX.2.2.2.2.2.2.1
  refine ok_bd40 (v_M_branch hc fu hfu st' v2 v3 v6 v7 v11 v12 v13 v14 v15 v16 v17 v19 v20 v21 v22 v24 v25 v26 v27 one v41 (rw := upW rw nb R) (par := upW par nb p) (hgt := upW hgt nb (hgt p + 1)) (Vd := Vdr (upW rw nb R) (nb + 1)) (sB := sBr (upW rw nb R)) (tG := tGr (upW rw nb R)) (iG := iGr (upW rw nb R)) (oG := oGr (upW rw nb R)) hsg (nb := nb + 1) (by omega) hp1 hgp (fun b hb hb' => vEn_r hX r1 r2 hb hb') (fun b b' _ hb _ => hmo_r _ hb) (to := nb) (by omega) (bad := upW bad nb false) (z := zx) x3 (O := oBr (upW rw nb R) (nb + 1)) (by omega) w7 (ub := v10) (u1 := v23) (th := v39) r3 hcm.2.2.2 r1.2.2.1 u29 u30 u31 u32 u33 v28 v29 v30 v31 v34 u45 u46 u47 u48 u49 u50 u51 u52 u53 u54 u55 u56 u57 u58 u59 u60 u61 u62 u63 u64 v40 u67 u68 u73 u74) (fun w1 g0 g1 g2 g3 g4 g5 g6 g7 g8 g9 g10 g11 g12 g13 g14 g15 g16 g17 g18 g19 g20 g21 g22 g23 g24 g25 g26 g27 g28 g29 g30 g31 g32 g33 g34 g35 g36 g37 g38 hq => ?_)
  obtain ⟨v, x, U', q1, q2, q3, q4, q5, q6, q7⟩ := hq
  replace q2 : w1 = nI v := q2
  replace q5 : ∀ j, j < 8 ∨ (15 < j ∧ j ≠ 19) → g0 j = zx j := q5
  subst q2
  have hv14 := evW_14 _ _ _ _ _ q1
  have G := fun j hj => q5 j (Or.inl hj)
  by_cases hv : v = 0
  · refine ok_t (by rw [hv]; rfl) (ok_bnd (ok_some ?_))
    obtain ⟨f1, N', cs', f2, f3, f4, f5⟩ := q6 hv
    refine ⟨0, (nb + 1, upW par nb p, upW hgt nb (hgt p + 1), upW tim nb (rTm R), upW bit nb (rBi R), upW bad nb false, upW rw nb R, nb, U'), rfl, by decide, ⟨0, p, hr, Or.inr ⟨rfl, Or.inr ⟨hwk', v, x, U', q1, hv.symm, Or.inl ⟨hv, rfl⟩⟩⟩⟩, ⟨?_, ⟨r1.1, r1.2.1, f1, r1.2.2.2⟩, r2, q3, ⟨?_, ?_, ?_, ?_, ?_⟩, ⟨pk_us, N', cs', ?_, f3, f4, f5⟩, q4⟩, ?_, ?_⟩
    · subst hv
      exact sb2_I (S := exA (nb, par, hgt, tim, bit, bad, rw, tip, U) p R) (n := nb) hX (Nat.lt_succ_self _) (Or.inr ⟨hwk', 0, x, U', q1, rfl, Or.inl ⟨rfl, rfl⟩⟩)
    · rw [pk_un (by decide), G 1 (by decide)]; exact x1
    · rw [pk_un (by decide), G 3 (by decide)]; exact x3
    · rw [pk_un (by decide), G 5 (by decide)]; exact w5
    · rw [pk_un (by decide), G 6 (by decide)]; exact w6
    · rw [pk_un (by decide), G 7 (by decide)]; exact w7
    · rw [pk_un (by decide)]; exact f2
    · rw [pk_un (by decide), G 0 (by decide)]; exact x0
    · rw [pk_un (by decide), G 2 (by decide)]; exact x2
  refine ok_f (fun q => hv ((nI_eq32 (a := v) (b := 0) (by omega) (by omega)).mp q)) ?_
  have hS2 : aI sgB (nb + 1) (upW par nb p) (upW hgt nb (hgt p + 1)) (upW tim nb (rTm R)) (upW bit nb (rBi R)) (spL (upW par nb p) (nb + 1 - 1) 1 (upB (upW bad nb false) x true)) (upW rw nb R) tip U := sb2_I (S := exA (nb, par, hgt, tim, bit, bad, rw, tip, U) p R) (n := nb) hX (Nat.lt_succ_self _) (Or.inr ⟨hwk', v, x, U', q1, rfl, Or.inr ⟨hv, rfl⟩⟩)
  have hg3 : g0 3 = nI (nb + 1) := (G 3 (by decide)).trans x3
  have g7' : g0 7 = nI (oBr (upW rw nb R) (nb + 1)) := (G 7 (by decide)).trans w7
  refine ok_bd40 (v_M_branch hc fu hfu st' v2 v3 v6 v7 v11 v12 v13 v14 v15 v16 v17 v19 v20 v21 v22 v24 v25 v26 v27 one v41 (rw := upW rw nb R) (par := upW par nb p) (hgt := upW hgt nb (hgt p + 1)) (Vd := Vdr (upW rw nb R) (nb + 1)) (sB := sBr (upW rw nb R)) (tG := tGr (upW rw nb R)) (iG := iGr (upW rw nb R)) (oG := oGr (upW rw nb R)) hsg (nb := nb + 1) (by omega) hp1 hgp (fun b hb hb' => vEn_r hX r1 r2 hb hb') (fun b b' _ hb _ => hmo_r _ hb) (to := tip) (by omega) (bad := spL (upW par nb p) (nb + 1 - 1) 1 (upB (upW bad nb false) x true)) (z := g0) hg3 (O := oBr (upW rw nb R) (nb + 1)) (by omega) g7' q3 q4 (q7 hv) g3 g4 g5 g6 g7 g8 g9 g10 g11 g12 g13 g14 g15 g16 g17 g18 g19 g20 g21 g22 g23 g24 g25 g26 g27 g28 g29 g30 g31 g32 g34 g35 g36 g37 g38) (fun w2 m0 m1 m2 m3 m4 m5 m6 m7 m8 m9 m10 m11 m12 m13 m14 m15 m16 m17 m18 m19 m20 m21 m22 m23 m24 m25 m26 m27 m28 m29 m30 m31 m32 m33 m34 m35 m36 m37 m38 hq => ok_some ?_)
  obtain ⟨v', x', U2, p1, p2, p3, p4, p5, p6, p7⟩ := hq
  replace p5 : ∀ j, j < 8 ∨ (15 < j ∧ j ≠ 19) → m0 j = g0 j := p5
  obtain ⟨xx, hev⟩ := hX.2.2.2.2.2.2.2.1.2
  obtain ⟨u1', u2', u3'⟩ := evW_u _ _ _ _ _ _ _ _ p1 hev
  have eU := u3' u1'
  obtain ⟨f1, N', cs', f2, f3, f4, f5⟩ := p6 u1'
  have G2 : ∀ j, j < 8 → m0 j = zx j := fun j hj => (p5 j (Or.inl hj)).trans (G j hj)
  refine ⟨v, (nb + 1, upW par nb p, upW hgt nb (hgt p + 1), upW tim nb (rTm R), upW bit nb (rBi R), spL (upW par nb p) (nb + 1 - 1) 1 (upB (upW bad nb false) x true), upW rw nb R, tip, U), rfl, hv14, ⟨0, p, hr, Or.inr ⟨rfl, Or.inr ⟨hwk', v, x, U', q1, rfl, Or.inr ⟨hv, rfl⟩⟩⟩⟩, ⟨hS2, ⟨r1.1, r1.2.1, f1, r1.2.2.2⟩, r2, p3, ⟨(G2 1 (by decide)).trans x1, (G2 3 (by decide)).trans x3, (G2 5 (by decide)).trans w5, (G2 6 (by decide)).trans w6, (G2 7 (by decide)).trans w7⟩, ⟨(G2 4 (by decide)).trans x4, N', cs', f2, f3, f4, f5.trans eU⟩, p4⟩, (G2 0 (by decide)).trans x0, (G2 2 (by decide)).trans x2⟩
