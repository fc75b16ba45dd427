-- the reference's branch
abbrev T40 : Type := Int32 × (Nat → Int32) × (Nat → Int32) × (Nat → Int32) × (Nat → Int32) × (Nat → Int32) × (Nat → Int32) × (Nat → Int32) × (Nat → Int32) × (Nat → Int32) × (Nat → Int32) × (Nat → Int32) × (Nat → Int32) × (Nat → Int32) × (Nat → Int32) × (Nat → Int32) × (Nat → Int32) × (Nat → Int32) × (Nat → Int32) × (Nat → Int32) × (Nat → Int32) × (Nat → Int32) × (Nat → Int32) × (Nat → Int32) × (Nat → Int32) × (Nat → Int32) × (Nat → Int32) × (Nat → Int32) × (Nat → Int32) × (Nat → Int32) × (Nat → Int32) × (Nat → Int32) × (Nat → Int32) × (Nat → Int32) × (Nat → Int32) × (Nat → Int32) × (Nat → Int32) × (Nat → Int32) × (Nat → Int32) × (Nat → Int32)
/-- the way to a block -/
def wy (par : Nat → Nat) (b : Nat) : List Nat := wyL par (b + 1) b
set_option maxHeartbeats 2000000 in
theorem wyL_f {par : Nat → Nat} (hp : ∀ k, 0 < k → par k < k) : ∀ b f f', b < f → b < f' → wyL par f b = wyL par f' b := by
  intro b
  induction b using Nat.strongRecOn with
  | _ b ih =>
    intro f f' h1 h2
    obtain ⟨f, rfl⟩ : ∃ m, f = m + 1 := ⟨f - 1, by omega⟩
    obtain ⟨f', rfl⟩ : ∃ m, f' = m + 1 := ⟨f' - 1, by omega⟩
    show (if b = 0 then [] else wyL par f (par b) ++ [b]) = (if b = 0 then [] else wyL par f' (par b) ++ [b])
    by_cases e : b = 0
    · rw [if_pos e, if_pos e]
    · have := hp b (by omega)
      rw [if_neg e, if_neg e, ih (par b) this f f' (by omega) (by omega)]
set_option maxHeartbeats 2000000 in
theorem wy_0 (par : Nat → Nat) : wy par 0 = [] := rfl
set_option maxHeartbeats 2000000 in
theorem wy_s {par : Nat → Nat} (hp : ∀ k, 0 < k → par k < k) {b : Nat} (hb : 0 < b) : wy par b = wy par (par b) ++ [b] := by
  unfold wy
  show (if b = 0 then [] else wyL par b (par b) ++ [b]) = _
  have := hp b hb
  rw [if_neg (by omega), wyL_f hp (par b) b (par b + 1) (by omega) (by omega)]
set_option maxHeartbeats 2000000 in
theorem wy_mem {par : Nat → Nat} (hp : ∀ k, 0 < k → par k < k) : ∀ b x, x ∈ wy par b → 0 < x ∧ x ≤ b := by
  intro b
  induction b using Nat.strongRecOn with
  | _ b ih =>
    intro x hx
    by_cases e : b = 0
    · rw [e, wy_0] at hx
      exact absurd hx (by simp)
    · have hpb := hp b (by omega)
      rw [wy_s hp (by omega)] at hx
      rcases List.mem_append.mp hx with h | h
      · have := ih (par b) hpb x h
        omega
      · rw [List.mem_singleton.mp h]
        omega
set_option maxHeartbeats 2000000 in
theorem wy_len {par : Nat → Nat} (hp : ∀ k, 0 < k → par k < k) : ∀ b, (wy par b).length ≤ b := by
  intro b
  induction b using Nat.strongRecOn with
  | _ b ih =>
    by_cases e : b = 0
    · rw [e, wy_0]
      exact Nat.le_refl _
    · have hpb := hp b (by omega)
      have := ih (par b) hpb
      rw [wy_s hp (by omega), List.length_append]
      show _ + 1 ≤ b
      omega
set_option maxHeartbeats 2000000 in
/-- what lies before a block on a way is the way to its parent -/
theorem wy_pre {par : Nat → Nat} (hp : ∀ k, 0 < k → par k < k) : ∀ to P b bs, wy par to = P ++ b :: bs → P = wy par (par b) := by
  intro to
  induction to using Nat.strongRecOn with
  | _ to ih =>
    intro P b bs h
    by_cases e : to = 0
    · rw [e, wy_0] at h
      exact absurd h (by cases P <;> simp)
    · have hpt := hp to (by omega)
      rw [wy_s hp (by omega)] at h
      rcases List.eq_nil_or_concat bs with rfl | ⟨bs', y, rfl⟩
      · have h2 := List.append_inj' h rfl
        have : to = b := by
          have := h2.2
          exact (List.cons.inj this).1
        rw [← this]
        exact h2.1.symm
      · rw [List.concat_eq_append, ← List.cons_append, ← List.append_assoc] at h
        have h2 := List.append_inj' h rfl
        exact ih (par to) hpt P b bs' h2.1
set_option maxHeartbeats 2000000 in
/-- the numbers on a way rise -/
theorem wy_lt {par : Nat → Nat} (hp : ∀ k, 0 < k → par k < k) {to : Nat} {P : List Nat} {b : Nat} {bs : List Nat} (h : wy par to = P ++ b :: bs) : ∀ x, x ∈ P → x < b := fun x hx => by
  have e := wy_pre hp to P b bs h
  have hb : 0 < b := (wy_mem hp to b (by rw [h]; exact List.mem_append_right _ List.mem_cons_self)).1
  have := hp b hb
  rw [e] at hx
  have := (wy_mem hp _ x hx).2
  omega
/-- a block's first t transactions -/
def vlP (sgB : Nat → List Int32 → List Int32 → Bool) (rw : Nat → List Int32) (hgt : Nat → Nat) (b : Nat) : Nat → List Cn → List Cn → Prop
  | 0, U0, U => U = U0
  | t + 1, U0, U => ∃ U1 s, vlP sgB rw hgt b t U0 U1 ∧ stp sgB rw hgt b t U1 s ∧ s.1 = 0 ∧ U = s.2.1
set_option maxHeartbeats 2000000 in
theorem vlP_u {sgB : Nat → List Int32 → List Int32 → Bool} {rw : Nat → List Int32} {hgt : Nat → Nat} {b : Nat} : ∀ t U0 U U', vlP sgB rw hgt b t U0 U → vlP sgB rw hgt b t U0 U' → U = U'
  | 0, U0, U, U', h, h' => by
    replace h : U = U0 := h
    replace h' : U' = U0 := h'
    rw [h, h']
  | t + 1, U0, U, U', h, h' => by
    obtain ⟨U1, s, a1, a2, a3, a4⟩ := h
    obtain ⟨U1', s', b1, b2, b3, b4⟩ := h'
    have := vlP_u t U0 U1 U1' a1 b1
    subst this
    have := (stp_u a2 b2).2 a3
    rw [a4, b4, this]
/-- what is unspent before a block's transaction t -/
def evT (sgB : Nat → List Int32 → List Int32 → Bool) (rw : Nat → List Int32) (par hgt : Nat → Nat) (b t : Nat) (U : List Cn) : Prop := ∃ U0 y, evW sgB rw hgt (wy par (par b)) [] 0 y U0 ∧ vlP sgB rw hgt b t U0 U
set_option maxHeartbeats 2000000 in
theorem evT_u {sgB : Nat → List Int32 → List Int32 → Bool} {rw : Nat → List Int32} {par hgt : Nat → Nat} {b t : Nat} {U U' : List Cn} (h : evT sgB rw par hgt b t U) (h' : evT sgB rw par hgt b t U') : U = U' := by
  obtain ⟨U0, y, a1, a2⟩ := h
  obtain ⟨U0', y', b1, b2⟩ := h'
  have := (evW_u _ _ _ _ _ _ _ _ a1 b1).2.2 rfl
  subst this
  exact vlP_u t U0 U U' a2 b2
set_option maxHeartbeats 2000000 in
theorem evT_s {sgB : Nat → List Int32 → List Int32 → Bool} {rw : Nat → List Int32} {par hgt : Nat → Nat} {b t : Nat} {U : List Cn} {s : Nat × List Cn × Nat} (h : evT sgB rw par hgt b t U) (hs : stp sgB rw hgt b t U s) (h0 : s.1 = 0) : evT sgB rw par hgt b (t + 1) s.2.1 := by
  obtain ⟨U0, y, a1, a2⟩ := h
  exact ⟨U0, y, a1, U, s, a2, hs, h0, rfl⟩
def bdR (nb : Nat) (bad : Nat → Bool) (u : Nat → Int32) : Prop := ∀ b, b < nb → u b = if bad b = true then 1 else 0
/-- what branch leaves -/
def brQ2 (sgB : Nat → List Int32 → List Int32 → Bool) (rw : Nat → List Int32) (par hgt : Nat → Nat) (Vd : Nat → Nat → Prop) (iG oG : Nat → Nat → Nat) (nb to : Nat) (bad : Nat → Bool) (z0 : Nat → Int32) (w : Int32) (z ub u1 uO uH uN ch uI th : Nat → Int32) : Prop := ∃ v x U', evW sgB rw hgt (wy par to) [] v x U' ∧ w = nI v ∧ iFi sgB rw Vd iG (evT sgB rw par hgt) u1 ∧ ftB th ∧ (∀ j, j < 8 ∨ (15 < j ∧ j ≠ 19) → z j = z0 j) ∧ (v = 0 → bdR nb bad ub ∧ ∃ N cs, z 19 = nI N ∧ N ≤ 11600 ∧ rTab rw hgt Vd oG N cs uO uH uN ch uI ∧ liv N uI cs = U') ∧ (v ≠ 0 → bdR nb (spL par (nb - 1) 1 (upB bad x true)) ub)
def br40 (sgB : Nat → List Int32 → List Int32 → Bool) (rw : Nat → List Int32) (par hgt : Nat → Nat) (Vd : Nat → Nat → Prop) (iG oG : Nat → Nat → Nat) (nb to : Nat) (bad : Nat → Bool) (z0 : Nat → Int32) (x : T40) : Prop := match x with
  | (w, z, ub, u1, uO, uH, uN, ch, uI, _, _, _, _, _, _, _, _, _, _, _, _, _, _, _, _, _, _, _, _, _, _, _, _, _, th, _, _, _, _, _) => brQ2 sgB rw par hgt Vd iG oG nb to bad z0 w z ub u1 uO uH uN ch uI th
set_option maxHeartbeats 2000000 in
theorem l_br80 (fu : Nat) (st gp gh bt bts tA tZ tI tN tNs tO tOs iA iS iL iQ : Nat → Int32) (oV : Nat → Int64) (oS oL oT one tC : Nat → Int32) {par : Nat → Nat} {nb : Nat} (hnb : nb ≤ 202) (hgp : ∀ k, 0 < k → k < nb → gp k = nI (par k) ∧ par k < k) (w : Int32) (Q : T40 → Prop) {z u1 uO uH uN ch uI s1 s2 s3 s4 s5 s6 s7 s8 s9 s10 s11 s12 s13 s14 s15 s16 s17 s18 s19 s20 s21 s22 s23 s24 s25 th sz tk mg id wa : Nat → Int32} (h3 : z 3 = nI nb) : ∀ r b m bad ub, b + r = nb → 0 < b → r < m → bdR nb bad ub → (∀ ub', bdR nb (spL par r b bad) ub' → Q (w, z, ub', u1, uO, uH, uN, ch, uI, s1, s2, s3, s4, s5, s6, s7, s8, s9, s10, s11, s12, s13, s14, s15, s16, s17, s18, s19, s20, s21, s22, s23, s24, s25, th, sz, tk, mg, id, wa)) → ok (x_M_branch_80 fu st gp gh bt bts tA tZ tI tN tNs tO tOs iA iS iL iQ oV oS oL oT one tC m w (nI b) z ub u1 uO uH uN ch uI s1 s2 s3 s4 s5 s6 s7 s8 s9 s10 s11 s12 s13 s14 s15 s16 s17 s18 s19 s20 s21 s22 s23 s24 s25 th sz tk mg id wa) Q := by
  intro r
  induction r with
  | zero =>
    intro b m bad ub hb h0 hm hB hQ
    obtain ⟨m, rfl⟩ : ∃ q, m = q + 1 := ⟨m - 1, by omega⟩
    show ok (xb_M_branch_80 fu st gp gh bt bts tA tZ tI tN tNs tO tOs iA iS iL iQ oV oS oL oT one tC (x_M_branch_80 fu st gp gh bt bts tA tZ tI tN tNs tO tOs iA iS iL iQ oV oS oL oT one tC m) w (nI b) z ub u1 uO uH uN ch uI s1 s2 s3 s4 s5 s6 s7 s8 s9 s10 s11 s12 s13 s14 s15 s16 s17 s18 s19 s20 s21 s22 s23 s24 s25 th sz tk mg id wa) _
    unfold xb_M_branch_80
    rw [h3]
    exact ok_t ((nI_leI (by omega) (by omega)).mpr (by omega)) (ok_some (hQ ub hB))
  | succ r ih =>
    intro b m bad ub hb h0 hm hB hQ
    obtain ⟨m, rfl⟩ : ∃ q, m = q + 1 := ⟨m - 1, by omega⟩
    obtain ⟨e1, e2⟩ := hgp b h0 (by omega)
    show ok (xb_M_branch_80 fu st gp gh bt bts tA tZ tI tN tNs tO tOs iA iS iL iQ oV oS oL oT one tC (x_M_branch_80 fu st gp gh bt bts tA tZ tI tN tNs tO tOs iA iS iL iQ oV oS oL oT one tC m) w (nI b) z ub u1 uO uH uN ch uI s1 s2 s3 s4 s5 s6 s7 s8 s9 s10 s11 s12 s13 s14 s15 s16 s17 s18 s19 s20 s21 s22 s23 s24 s25 th sz tk mg id wa) _
    unfold xb_M_branch_80 xb_M_branch_112
    rw [h3]
    refine ok_f (fun e => by have := (nI_leI (by omega) (by omega)).mp e; omega) (ok_gd (inb_nI (by omega) (by decide)) ?_)
    rw [nI_clamp (n := b) (by omega), e1]
    refine ok_bnd (ok_gd (inb_nI (by omega) (by decide)) ?_)
    rw [nI_clamp (n := par b) (by omega), hB (par b) (by omega)]
    refine ok_bnd ?_
    cases hbp : bad (par b) with
    | false =>
      refine ok_t rfl (ok_bn (nI_1 b) (ih (b + 1) m bad ub (by omega) (by omega) (by omega) hB (fun ub' h => hQ ub' ?_)))
      show bdR nb (spL par r (b + 1) (if bad (par b) = true then upB bad b true else bad)) ub'
      rw [hbp]
      exact h
    | true =>
      refine ok_f (by decide) (ok_gd (inb_nI (by omega) (by decide)) (ok_bnd (ok_bn (nI_1 b) (ih (b + 1) m (upB bad b true) _ (by omega) (by omega) (by omega) (fun k hk => ?_) (fun ub' h => hQ ub' ?_)))))
      · rw [show vp_nar .boolean (1 : Int32) = (1 : Int32) from rfl]
        unfold upB
        by_cases q : k = b
        · rw [q, pk_us, if_pos rfl]; rfl
        · rw [pk_un q, if_neg q]; exact hB k hk
      · show bdR nb (spL par r (b + 1) (if bad (par b) = true then upB bad b true else bad)) ub'
        rw [hbp]
        exact h
/-- blocks on a way, one by one -/
def waR (wa : Nat → Int32) (bs : List Nat) : Prop := ∀ i, i < bs.length → wa (bs.length - 1 - i) = nI (bs.getD i 0)
set_option maxHeartbeats 2000000 in
theorem stp_le {sgB : Nat → List Int32 → List Int32 → Bool} {rw : Nat → List Int32} {hgt : Nat → Nat} {b t : Nat} {U : List Cn} {r : Nat × List Cn × Nat} (h : stp sgB rw hgt b t U r) : r.1 ≤ 14 := by
  rcases h with ⟨-, -, -, e⟩ | ⟨-, e⟩
  · rw [e]; decide
  · rw [e]
    unfold stp0
    split
    · exact Nat.zero_le _
    split
    · exact (by decide : 10 ≤ 14)
    split
    · exact (by decide : 11 ≤ 14)
    split
    · exact (by decide : 12 ≤ 14)
    · exact Nat.zero_le _
set_option maxHeartbeats 2000000 in
theorem vlR_le {sgB : Nat → List Int32 → List Int32 → Bool} {rw : Nat → List Int32} {hgt : Nat → Nat} {b : Nat} : ∀ n t U fee r, vlR sgB rw hgt b n t U fee r → r.1 ≤ 14
  | 0, t, U, fee, r, h => by
    replace h : r = (0, U, fee) := h
    rw [h]
    exact Nat.zero_le _
  | n + 1, t, U, fee, r, h => by
    obtain ⟨s, h1, h2⟩ := h
    rcases h2 with ⟨-, h2⟩ | ⟨-, h2⟩
    · rw [h2]; exact stp_le h1
    · exact vlR_le n _ _ _ _ h2
set_option maxHeartbeats 2000000 in
theorem l_br41 {F : Type} [Lean.Grind.Field F] [DecidableEq F] {c : Int → F} (hc : cH pP c) (fu : Nat) (hfu : 2 ^ 257 ≤ fu) (st gp gh bt bts tA tZ tI tN tNs tO tOs iA iS iL iQ : Nat → Int32) (oV : Nat → Int64) (oS oL oT one tC : Nat → Int32) {sgB : Nat → List Int32 → List Int32 → Bool} {rw : Nat → List Int32} {par hgt : Nat → Nat} {Vd : Nat → Nat → Prop} {sB : Nat → Nat} {tG iG oG : Nat → Nat → Nat} (hsg : ∀ e K G, sgB e K G = true ↔ sgO c e K G) {nb : Nat} (hnb : nb ≤ 202) (hp : ∀ k, 0 < k → par k < k) (hgp : ∀ k, 0 < k → k < nb → gp k = nI (par k)) (hE : ∀ b, 0 < b → b < nb → vEn sgB rw hgt Vd sB tG iG oG (evT sgB rw par hgt) st gh bt bts tA tZ tI tN tNs tO tOs iA iS iL iQ oV oS oL oT one tC b) (hmo : ∀ b b', 0 < b → b < b' → b' < nb → oG b (TLb rw b).length ≤ oG b' 0) {to : Nat} (hto : to < nb) {bad : Nat → Bool} {z0 : Nat → Int32} (h3 : z0 3 = nI nb) : ∀ bs P U m N cs z ub u1 uO uH uN ch uI s1 s2 s3 s4 s5 s6 s7 s8 s9 s10 s11 s12 s13 s14 s15 s16 s17 s18 s19 s20 s21 s22 s23 s24 s25 th sz tk mg id wa, wy par to = P ++ bs → bs.length < m → (∃ y, evW sgB rw hgt P [] 0 y U) → (∀ b bs', bs = b :: bs' → N ≤ oG b 0) → N ≤ 11600 → (P ≠ [] ∨ N = 0) → z 19 = nI N → rTab rw hgt Vd oG N cs uO uH uN ch uI → liv N uI cs = U → iFi sgB rw Vd iG (evT sgB rw par hgt) u1 → ftB th → (∀ j, j < 8 ∨ (15 < j ∧ j ≠ 19) → z j = z0 j) → bdR nb bad ub → waR wa bs → ok (x_M_branch_41 fu st gp gh bt bts tA tZ tI tN tNs tO tOs iA iS iL iQ oV oS oL oT one tC m (nI bs.length - (1 : Int32)) z ub u1 uO uH uN ch uI s1 s2 s3 s4 s5 s6 s7 s8 s9 s10 s11 s12 s13 s14 s15 s16 s17 s18 s19 s20 s21 s22 s23 s24 s25 th sz tk mg id wa) (br40 sgB rw par hgt Vd iG oG nb to bad z0) := by
  have hfu2 : 40000 ≤ fu := Nat.le_trans (by decide) hfu
  intro bs
  induction bs with
  | nil =>
    intro P U m N cs z ub u1 uO uH uN ch uI s1 s2 s3 s4 s5 s6 s7 s8 s9 s10 s11 s12 s13 s14 s15 s16 s17 s18 s19 s20 s21 s22 s23 s24 s25 th sz tk mg id wa hL hm hev hNo hN hP0 h19 hT hl hi hth hz hB hwa
    obtain ⟨m, rfl⟩ : ∃ q, m = q + 1 := ⟨m - 1, by omega⟩
    show ok (xb_M_branch_41 fu st gp gh bt bts tA tZ tI tN tNs tO tOs iA iS iL iQ oV oS oL oT one tC (x_M_branch_41 fu st gp gh bt bts tA tZ tI tN tNs tO tOs iA iS iL iQ oV oS oL oT one tC m) (nI 0 - (1 : Int32)) z ub u1 uO uH uN ch uI s1 s2 s3 s4 s5 s6 s7 s8 s9 s10 s11 s12 s13 s14 s15 s16 s17 s18 s19 s20 s21 s22 s23 s24 s25 th sz tk mg id wa) _
    unfold xb_M_branch_41
    rw [List.append_nil] at hL
    obtain ⟨y, hev⟩ := hev
    exact ok_t (by decide) (ok_some ⟨0, y, U, by rw [hL]; exact hev, rfl, hi, hth, hz, fun _ => ⟨hB, N, cs, h19, hN, hT, hl⟩, fun h => absurd rfl h⟩)
  | cons b bs ih =>
    intro P U m N cs z ub u1 uO uH uN ch uI s1 s2 s3 s4 s5 s6 s7 s8 s9 s10 s11 s12 s13 s14 s15 s16 s17 s18 s19 s20 s21 s22 s23 s24 s25 th sz tk mg id wa hL hm hev hNo hN hP0 h19 hT hl hi hth hz hB hwa
    obtain ⟨m, rfl⟩ : ∃ q, m = q + 1 := ⟨m - 1, by omega⟩
    replace hm : bs.length + 1 < m + 1 := hm
    have hmb := wy_mem hp to b (by rw [hL]; exact List.mem_append_right _ List.mem_cons_self)
    have hbn : b < nb := by omega
    have hlen := wy_len hp to
    rw [hL, List.length_append] at hlen
    replace hlen : P.length + (bs.length + 1) ≤ to := hlen
    have hEb := hE b hmb.1 hbn
    have eP := wy_pre hp to P b bs hL
    obtain ⟨y, hev⟩ := hev
    have hev0 : evT sgB rw par hgt b 0 U := ⟨U, y, by rw [← eP]; exact hev, rfl⟩
    show ok (xb_M_branch_41 fu st gp gh bt bts tA tZ tI tN tNs tO tOs iA iS iL iQ oV oS oL oT one tC (x_M_branch_41 fu st gp gh bt bts tA tZ tI tN tNs tO tOs iA iS iL iQ oV oS oL oT one tC m) (nI (bs.length + 1) - (1 : Int32)) z ub u1 uO uH uN ch uI s1 s2 s3 s4 s5 s6 s7 s8 s9 s10 s11 s12 s13 s14 s15 s16 s17 s18 s19 s20 s21 s22 s23 s24 s25 th sz tk mg id wa) _
    unfold xb_M_branch_41
    rw [show nI (bs.length + 1) - (1 : Int32) = nI bs.length from nI_sb (a := bs.length + 1) (b := 1) (by omega)]
    refine ok_f (fun e => by have := (nI_ltI (a := bs.length) (b := 0) (by omega) (by omega)).mp e; omega) (ok_gd (inb_nI (by omega) (by decide)) ?_)
    have hw0 : wa bs.length = nI b := hwa 0 (by show 0 < bs.length + 1; omega)
    rw [nI_clamp (n := bs.length) (by omega), hw0]
    refine ok_bnd (ok_bd38 (v_M_valid hc fu hfu st gh bt bts tA tZ tI tN tNs tO tOs iA iS iL iQ oV oS oL oT one tC hsg hEb hev0 ⟨h19, hNo b bs rfl, hT, hl, hi, hth, fun _ _ => rfl⟩ s1 s2 s3 s4 s5 s6 s7 s8 s9 s10 s11 s12 s13 s14 s15 s16 s17 s18 s19 s20 s21 s22 s23 s24 s25 sz tk mg id) (fun v2 y3 y4 y5 y6 y7 y8 y9 f1 f2 f3 f4 f5 f6 f7 f8 f9 f10 f11 f12 f13 f14 f15 f16 f17 f18 f19 f20 f21 f22 f23 f24 f25 t1 t2 t3 t4 t5 hq => ?_))
    obtain ⟨v, U', r1, r2, r3, r4, r5, r6⟩ := hq
    replace r2 : v2 = nI v := r2
    replace r3 : iFi sgB rw Vd iG (evT sgB rw par hgt) y4 := r3
    replace r4 : ftB t1 := r4
    replace r5 : ∀ j, j < 8 ∨ (15 < j ∧ j ≠ 19) → y3 j = z j := r5
    replace r6 : v = 0 → ∃ N cs, y3 19 = nI N ∧ N ≤ oG b (TLb rw b).length ∧ rTab rw hgt Vd oG N cs y5 y6 y7 y8 y9 ∧ liv N y9 cs = U' := r6
    have hz' : ∀ j, j < 8 ∨ (15 < j ∧ j ≠ 19) → y3 j = z0 j := fun j hj => (r5 j hj).trans (hz j hj)
    subst r2
    have v14 : v ≤ 14 := by
      obtain ⟨r, g1, g2⟩ := r1
      rcases g2 with ⟨g2, g3⟩ | ⟨g2, g3, g4⟩
      · rw [g3]
        exact vlR_le _ _ _ _ _ g1
      · rw [g4]
        split <;> decide
    by_cases c0 : v = 0
    · subst c0
      obtain ⟨N', cs', n1, n2, n3, n4⟩ := r6 rfl
      refine ok_t rfl (ok_bnd ?_)
      have hgo := ih (P ++ [b]) U' m N' cs' y3 ub y4 y5 y6 y7 y8 y9 f1 f2 f3 f4 f5 f6 f7 f8 f9 f10 f11 f12 f13 f14 f15 f16 f17 f18 f19 f20 f21 f22 f23 f24 f25 t1 t2 t3 t4 t5 wa (by rw [hL, List.append_assoc]; rfl) (by omega) ⟨0, evW_ap P [b] [] 0 0 U U' y hev ⟨0, U', r1, Or.inr ⟨rfl, rfl, rfl⟩⟩⟩ (fun b' bs' e => ?_) ?_ (Or.inl (by simp)) n1 n3 n4 r3 r4 hz' hB (fun i hi => ?_)
      · rw [show nI bs.length + (-1 : Int32) = nI bs.length - (1 : Int32) from (Int32.sub_eq_add_neg _ _).symm]
        exact hgo
      · have hL2 : wy par to = (P ++ [b]) ++ b' :: bs' := by rw [hL, e, List.append_assoc]; rfl
        have hlt := wy_lt hp hL2 b (List.mem_append_right _ List.mem_cons_self)
        have hmb' := wy_mem hp to b' (by rw [hL2]; exact List.mem_append_right _ List.mem_cons_self)
        exact Nat.le_trans n2 (hmo b b' hmb.1 hlt (by omega))
      · obtain ⟨-, -, -, -, -, -, -, -, o2, -⟩ := hEb
        omega
      · have := hwa (i + 1) (by show i + 1 < bs.length + 1; omega)
        rw [show (b :: bs).length - 1 - (i + 1) = bs.length - 1 - i from by show bs.length + 1 - 1 - (i + 1) = _; omega] at this
        exact this
    · refine ok_f (fun e => c0 ((nI_eq (b := 0) (by omega) (by omega)).mp e)) (ok_gd (inb_nI (by omega) (by decide)) (ok_bnd (ok_gd (inb_nI (by omega) (by decide)) ?_)))
      rw [nI_clamp (n := b) (by omega), show vp_nar .boolean (1 : Int32) = (1 : Int32) from rfl]
      refine ok_bnd (l_br80 fu st gp gh bt bts tA tZ tI tN tNs tO tOs iA iS iL iQ oV oS oL oT one tC hnb (fun k h1 h2 => ⟨hgp k h1 h2, hp k h1⟩) (nI v) _ ((hz' 3 (by decide)).trans h3) (nb - 1) 1 fu (upB bad b true) _ (by omega) (by decide) (by omega) (fun k hk => ?_) (fun ub' hub => ⟨v, b, U', ?_, rfl, r3, r4, hz', fun e => absurd e c0, fun _ => hub⟩))
      · unfold upB
        by_cases q : k = b
        · rw [q, pk_us, if_pos rfl]; rfl
        · rw [pk_un q, if_neg q]; exact hB k hk
      · rw [hL]
        exact evW_ap P (b :: bs) [] v b U U' y hev ⟨v, U', r1, Or.inl ⟨c0, rfl, rfl⟩⟩
set_option maxHeartbeats 2000000 in
theorem v_M_branch {F : Type} [Lean.Grind.Field F] [DecidableEq F] {c : Int → F} (hc : cH pP c) (fu : Nat) (hfu : 2 ^ 257 ≤ fu) (st gp gh bt bts tA tZ tI tN tNs tO tOs iA iS iL iQ : Nat → Int32) (oV : Nat → Int64) (oS oL oT one tC : Nat → Int32) {sgB : Nat → List Int32 → List Int32 → Bool} {rw : Nat → List Int32} {par hgt : Nat → Nat} {Vd : Nat → Nat → Prop} {sB : Nat → Nat} {tG iG oG : Nat → Nat → Nat} (hsg : ∀ e K G, sgB e K G = true ↔ sgO c e K G) {nb : Nat} (hnb : nb ≤ 202) (hp : ∀ k, 0 < k → par k < k) (hgp : ∀ k, 0 < k → k < nb → gp k = nI (par k)) (hE : ∀ b, 0 < b → b < nb → vEn sgB rw hgt Vd sB tG iG oG (evT sgB rw par hgt) st gh bt bts tA tZ tI tN tNs tO tOs iA iS iL iQ oV oS oL oT one tC b) (hmo : ∀ b b', 0 < b → b < b' → b' < nb → oG b (TLb rw b).length ≤ oG b' 0) {to : Nat} (hto : to < nb) {bad : Nat → Bool} {z : Nat → Int32} (h3 : z 3 = nI nb) {O : Nat} (hO : O ≤ 11600) (h7 : z 7 = nI O) {ub u1 th : Nat → Int32} (hi : iFi sgB rw Vd iG (evT sgB rw par hgt) u1) (hth : ftB th) (hB : bdR nb bad ub) (uO uH uN ch uI s1 s2 s3 s4 s5 s6 s7 s8 s9 s10 s11 s12 s13 s14 s15 s16 s17 s18 s19 s20 s21 s22 s23 s24 s25 sz tk mg id wa : Nat → Int32) : ok (x_M_branch fu st gp gh bt bts tA tZ tI tN tNs tO tOs iA iS iL iQ oV oS oL oT one tC (nI to) z ub u1 uO uH uN ch uI s1 s2 s3 s4 s5 s6 s7 s8 s9 s10 s11 s12 s13 s14 s15 s16 s17 s18 s19 s20 s21 s22 s23 s24 s25 th sz tk mg id wa) (br40 sgB rw par hgt Vd iG oG nb to bad z) := by
  have hfu2 : 40000 ≤ fu := Nat.le_trans (by decide) hfu
  unfold x_M_branch
  refine ok_bd2 (v_M_clear fu hfu2 hO h7 ch uI) (fun f1 f2 hc1 => ok_bnd ?_)
  replace hc1 : ∀ p, p < 32768 → f1 p = -1 := hc1
  have hT0 : rTab rw hgt Vd oG 0 (fun _ => e_C) uO uH uN f1 f2 := ⟨fun e he => absurd he (Nat.not_lt_zero _), fun p hp => ⟨[], hc1 p hp, fun e he => absurd he (Nat.not_lt_zero _), fun e he => absurd he (by simp), Nat.le_refl _⟩, fun e e' he => absurd he (Nat.not_lt_zero _)⟩
  have L : ∀ x (bs : List Nat) m wa, wy par to = wy par x ++ bs → x < m → x ≤ to → bs.length + (wy par x).length < 202 → (∀ i, i < bs.length → wa (bs.length - 1 - i) = nI (bs.getD i 0)) → ok (x_M_branch_13 fu st gp gh bt bts tA tZ tI tN tNs tO tOs iA iS iL iQ oV oS oL oT one tC m (nI bs.length) (nI x) (upd z 19 (0 : Int32)) ub u1 uO uH uN f1 f2 s1 s2 s3 s4 s5 s6 s7 s8 s9 s10 s11 s12 s13 s14 s15 s16 s17 s18 s19 s20 s21 s22 s23 s24 s25 th sz tk mg id wa) (br40 sgB rw par hgt Vd iG oG nb to bad z) := by
    intro x
    induction x using Nat.strongRecOn with
    | _ x ih =>
      intro bs m wa hL hm hxt hlen hwa
      obtain ⟨m, rfl⟩ : ∃ q, m = q + 1 := ⟨m - 1, by omega⟩
      show ok (xb_M_branch_13 fu st gp gh bt bts tA tZ tI tN tNs tO tOs iA iS iL iQ oV oS oL oT one tC (x_M_branch_13 fu st gp gh bt bts tA tZ tI tN tNs tO tOs iA iS iL iQ oV oS oL oT one tC m) (nI bs.length) (nI x) (upd z 19 (0 : Int32)) ub u1 uO uH uN f1 f2 s1 s2 s3 s4 s5 s6 s7 s8 s9 s10 s11 s12 s13 s14 s15 s16 s17 s18 s19 s20 s21 s22 s23 s24 s25 th sz tk mg id wa) _
      unfold xb_M_branch_13
      by_cases e : x = 0
      · subst e
        rw [wy_0, List.nil_append] at hL
        refine ok_t (by decide) (ok_bnd ?_)
        refine l_br41 hc fu hfu st gp gh bt bts tA tZ tI tN tNs tO tOs iA iS iL iQ oV oS oL oT one tC hsg hnb hp hgp hE hmo hto h3 bs [] [] fu 0 (fun _ => e_C) (upd z 19 (0 : Int32)) ub u1 uO uH uN f1 f2 s1 s2 s3 s4 s5 s6 s7 s8 s9 s10 s11 s12 s13 s14 s15 s16 s17 s18 s19 s20 s21 s22 s23 s24 s25 th sz tk mg id wa (by rw [List.nil_append]; exact hL) (by omega) ⟨0, rfl, rfl⟩ (fun _ _ _ => Nat.zero_le _) (Nat.zero_le _) (Or.inr rfl) pk_us hT0 rfl hi hth (fun j hj => pk_un (by omega)) hB hwa
      · have hpx := hp x (by omega)
        rw [wy_s hp (show 0 < x by omega), List.append_assoc] at hL
        rw [wy_s hp (show 0 < x by omega), List.length_append] at hlen
        replace hlen : bs.length + ((wy par (par x)).length + 1) < 202 := hlen
        refine ok_f (fun q => by have := (nI_leI (a := x) (b := 0) (by omega) (by omega)).mp q; omega) (ok_bn (nI_1 _) (ok_gd (inb_nI (by omega) (by decide)) ?_))
        rw [nI_clamp (n := bs.length) (by omega), nI_clamp (n := x) (by omega), hgp x (by omega) (by omega)]
        refine ok_bnd (ok_gd (inb_nI (by omega) (by decide)) (ok_bnd ?_))
        refine ih (par x) hpx (x :: bs) m (upd wa bs.length (nI x)) hL (by omega) (by omega) (by show bs.length + 1 + _ < 202; omega) (fun i hi => ?_)
        replace hi : i < bs.length + 1 := hi
        show upd wa bs.length (nI x) (bs.length + 1 - 1 - i) = _
        cases i with
        | zero => rw [show bs.length + 1 - 1 - 0 = bs.length from by omega, pk_us]; rfl
        | succ i =>
          rw [pk_un (by omega), show bs.length + 1 - 1 - (i + 1) = bs.length - 1 - i from by omega]
          exact hwa i (by omega)
  have hl := wy_len hp to
  exact L to [] fu wa (by rw [List.append_nil]) (by omega) (Nat.le_refl _) (by show 0 + _ < 202; omega) (fun i hi => absurd hi (Nat.not_lt_zero _))
