-- hash, tip, unspent, count, digest of the reference
set_option maxHeartbeats 1000000 in
theorem rRow_w {z row : Nat → Int32} {R : List Int32} (h : rRow z row R) {n : Nat} (hn : n ≤ R.length) : bl row 0 n = bl (lf R) 0 n := bl_c _ _ _ fun j hj => by rw [Nat.zero_add]; exact h.2.2.1 j (by omega)
set_option maxHeartbeats 1000000 in
theorem v_M_hash (fu : Nat) (hfu : 1600 ≤ fu) (a : Int32) {z row : Nat → Int32} {R : List Int32} (h : rRow z row R) (u1 u2 u3 u4 : Nat → Int32) : ok (x_M_hash fu row a z u1 u2 u3 u4) (fun t => z02 z t.2.1 ∧ rRow t.2.1 row R ∧ ((∃ k, k < 8 ∧ a = nI k ∧ t.2.1 2 = 0 ∧ t.1 = nI (leP (dbl (lf R) R.length) (4 * k) 4)) ∨ ((∀ k, k < 8 → a ≠ nI k) ∧ t.2.1 2 = 1))) := by
  have hl := h.2.1
  have bad : (∀ k, k < 8 → a ≠ nI k) → ok (xb_M_hash_11 fu row a z u1 u2 u3 u4) (fun t => z02 z t.2.1 ∧ rRow t.2.1 row R ∧ ((∃ k, k < 8 ∧ a = nI k ∧ t.2.1 2 = 0 ∧ t.1 = nI (leP (dbl (lf R) R.length) (4 * k) 4)) ∨ ((∀ k, k < 8 → a ≠ nI k) ∧ t.2.1 2 = 1))) := fun q => by
    unfold xb_M_hash_11 xb_M_hash_16
    exact ok_bnd (ok_f (by rw [pk_us]; decide) (ok_some ⟨z02_2 z 1, rRow_2 h 1, Or.inr ⟨q, (show upd z 2 1 2 = 1 from pk_us)⟩⟩))
  unfold x_M_hash
  rcases pk_ix a (n := 8) (by decide) with q | q | ⟨n, q, rfl⟩
  · exact ok_t q (bad fun n hn e => by rw [e] at q; exact absurd ((nI_ltI (a := n) (b := 0) (by omega) (by omega)).mp q) (Nat.not_lt_zero _))
  · have q0 : ¬ a < 0 := fun g => by
      have h1 : nI 8 < 0 := Int32.lt_of_le_of_lt q g
      exact absurd h1 (by decide)
    refine ok_f q0 (ok_f (fun g => ?_) (bad fun n hn e => ?_))
    · have h1 : nI 8 ≤ nI 7 := Int32.le_trans q g
      exact absurd h1 (by decide)
    · rw [e] at q
      exact absurd ((nI_leI (a := 8) (b := n) (by omega) (by omega)).mp q) (by omega)
  · refine ok_f (fun g => absurd ((nI_ltI (a := n) (b := 0) (by omega) (by omega)).mp g) (Nat.not_lt_zero _)) (ok_t ((nI_leI (a := n) (b := 7) (by omega) (by omega)).mpr (by omega)) ?_)
    unfold xb_M_hash_16
    refine ok_bnd (ok_t (by rw [pk_us]; decide) ?_)
    have e0 : upd z 2 (0 : Int32) 0 = nI R.length := by rw [pk_un (by decide)]; exact h.1
    rw [e0]
    refine ok_bd4 (v_M_twice fu hfu (upd z 2 0) 3000 row (by decide) (a := 0) (N := R.length) (by omega) (by omega) u1 u2 u3 u4 (fun j _ => h.2.2.2.1 _)) (fun f2 f3 f4 f5 hq => ?_)
    replace hq : ∀ j, f4 j = if j < 32 then dbl (fun i => row (0 + i)) R.length j else u3 j := hq
    refine ok_bn (e' := nI (4 * n)) (pk_mul 4 n) ?_
    refine ok_bd1 (Q := fun v => v = nI (leP f4 (4 * n) 4)) (by rw [m_small fu 32 (by decide) f4 (by omega)]; exact ok_some rfl) (fun v hv => ok_some ⟨z02_2 z 0, rRow_2 h 0, Or.inl ⟨n, q, rfl, (show upd z 2 0 2 = 0 from pk_us), ?_⟩⟩)
    show v = _
    rw [hv, leP_c (p' := dbl (lf R) R.length) fun j hj => by rw [hq, if_pos (by omega), dbl_c (m' := lf R) fun i hi => by rw [Nat.zero_add]; exact h.2.2.1 i hi]]
def tpA (par hgt tim : Nat → Nat) (bit : Nat → Int32) (rw : Nat → List Int32) (tip k : Nat) (y : Int32) : Prop := (k < 8 ∧ y = nI (leP (bIf rw tip) (4 * k) 4)) ∨ (k = 8 ∧ y = nI (hgt tip)) ∨ (k = 9 ∧ y = nI (tim tip)) ∨ (k = 10 ∧ y = bit tip) ∨ (k = 11 ∧ wnQ par hgt tim bit tip y)
set_option maxHeartbeats 1000000 in
theorem tpA_u {par hgt tim : Nat → Nat} {bit : Nat → Int32} {rw : Nat → List Int32} {tip k : Nat} {y y' : Int32} (h : tpA par hgt tim bit rw tip k y) (h' : tpA par hgt tim bit rw tip k y') : y = y' := by
  rcases h with ⟨h1, h2⟩ | ⟨h1, h2⟩ | ⟨h1, h2⟩ | ⟨h1, h2⟩ | ⟨h1, h2⟩ <;> rcases h' with ⟨g1, g2⟩ | ⟨g1, g2⟩ | ⟨g1, g2⟩ | ⟨g1, g2⟩ | ⟨g1, g2⟩ <;> first | (exfalso; omega) | exact h2.trans g2.symm | exact wnQ_u h2 g2
set_option maxHeartbeats 1000000 in
theorem v_M_tip (fu : Nat) (hfu : 400 ≤ fu) (a : Int32) {z row : Nat → Int32} {R : List Int32} (h : rRow z row R) {nb : Nat} {par hgt tim : Nat → Nat} {bit : Nat → Int32} {rw : Nat → List Int32} {tip : Nat} (ht : tip < nb) (hnb : nb ≤ 200) {gp gh gt gb bI : Nat → Int32} (hT : rTb nb par hgt tim bit gp gh gt gb) (hid : ∀ k, k < nb → ∀ i, i < 8 → bI (8 * k + i) = nI (leP (bIf rw k) (4 * i) 4)) (h4 : z 4 = nI tip) (u1 u2 : Nat → Int32) : ok (x_M_tip fu gp gh gt gb bI a z u1 u2) (fun t => z02 z t.2.1 ∧ rRow t.2.1 row R ∧ ((∃ k, k < 12 ∧ a = nI k ∧ t.2.1 2 = 0 ∧ tpA par hgt tim bit rw tip k t.1) ∨ ((∀ k, k < 12 → a ≠ nI k) ∧ t.2.1 2 = 1))) := by
  have bad : (∀ k, k < 12 → a ≠ nI k) → ok (xb_M_tip_11 fu gp gh gt gb bI a z u1 u2) (fun t => z02 z t.2.1 ∧ rRow t.2.1 row R ∧ ((∃ k, k < 12 ∧ a = nI k ∧ t.2.1 2 = 0 ∧ tpA par hgt tim bit rw tip k t.1) ∨ ((∀ k, k < 12 → a ≠ nI k) ∧ t.2.1 2 = 1))) := fun q => by
    unfold xb_M_tip_11 xb_M_tip_16
    exact ok_bnd (ok_f (by rw [pk_us]; decide) (ok_some ⟨z02_2 z 1, rRow_2 h 1, Or.inr ⟨q, (show upd z 2 1 2 = 1 from pk_us)⟩⟩))
  unfold x_M_tip
  rcases pk_ix a (n := 12) (by decide) with q | q | ⟨n, q, rfl⟩
  · exact ok_t q (bad fun n hn e => by rw [e] at q; exact absurd ((nI_ltI (a := n) (b := 0) (by omega) (by omega)).mp q) (Nat.not_lt_zero _))
  · have q0 : ¬ a < 0 := fun g => by
      have h1 : nI 12 < 0 := Int32.lt_of_le_of_lt q g
      exact absurd h1 (by decide)
    refine ok_f q0 (ok_f (fun g => ?_) (bad fun n hn e => ?_))
    · have h1 : nI 12 ≤ nI 11 := Int32.le_trans q g
      exact absurd h1 (by decide)
    · rw [e] at q
      exact absurd ((nI_leI (a := 12) (b := n) (by omega) (by omega)).mp q) (by omega)
  · refine ok_f (fun g => absurd ((nI_ltI (a := n) (b := 0) (by omega) (by omega)).mp g) (Nat.not_lt_zero _)) (ok_t ((nI_leI (a := n) (b := 11) (by omega) (by omega)).mpr (by omega)) ?_)
    unfold xb_M_tip_16
    refine ok_bnd (ok_t (by rw [pk_us]; decide) ?_)
    have e4 : upd z 2 (0 : Int32) 4 = nI tip := by rw [pk_un (by decide)]; exact h4
    rw [e4]
    have hin : inb (nI tip) 202 = true := inb_nI (by omega) (by decide)
    have ec : (nI tip).toNatClampNeg = tip := nI_clamp (n := tip) (by omega)
    obtain ⟨-, y2, y3, -, y5, -⟩ := hT.2.2 tip ht
    have R0 : ∀ {y : Int32}, tpA par hgt tim bit rw tip n y → ∀ {f1 f2 : Nat → Int32}, (fun t : Int32 × (Nat → Int32) × (Nat → Int32) × (Nat → Int32) => z02 z t.2.1 ∧ rRow t.2.1 row R ∧ ((∃ k, k < 12 ∧ nI n = nI k ∧ t.2.1 2 = 0 ∧ tpA par hgt tim bit rw tip k t.1) ∨ ((∀ k, k < 12 → nI n ≠ nI k) ∧ t.2.1 2 = 1))) (y, upd z 2 0, f1, f2) := fun {_} hy {_ _} => ⟨z02_2 z 0, rRow_2 h 0, Or.inl ⟨n, q, rfl, (show upd z 2 0 2 = 0 from pk_us), hy⟩⟩
    by_cases q8 : 8 ≤ n
    · refine ok_t ((nI_leI (a := 8) (b := n) (by omega) (by omega)).mpr q8) ?_
      by_cases e8 : n = 8
      · refine ok_t (by rw [e8]; rfl) (ok_gd hin (ok_bnd (ok_some (R0 (Or.inr (Or.inl ⟨e8, ?_⟩))))))
        rw [ec]; exact y2
      refine ok_f (fun g => e8 ((nI_eq32 (a := n) (b := 8) (by omega) (by omega)).mp g)) ?_
      by_cases e9 : n = 9
      · refine ok_t (by rw [e9]; rfl) (ok_gd hin (ok_bnd (ok_some (R0 (Or.inr (Or.inr (Or.inl ⟨e9, ?_⟩)))))))
        rw [ec]; exact y3
      refine ok_f (fun g => e9 ((nI_eq32 (a := n) (b := 9) (by omega) (by omega)).mp g)) ?_
      by_cases e10 : n = 10
      · refine ok_t (by rw [e10]; rfl) (ok_gd hin (ok_bnd (ok_some (R0 (Or.inr (Or.inr (Or.inr (Or.inl ⟨e10, ?_⟩))))))))
        rw [ec]; exact y5
      refine ok_f (fun g => e10 ((nI_eq32 (a := n) (b := 10) (by omega) (by omega)).mp g)) ?_
      refine ok_bd3 (v_M_wanted fu hfu (upd z 2 0) hT (by omega) ht u1 u2) (fun v2 f3 f4 hq => ok_some (R0 (Or.inr (Or.inr (Or.inr (Or.inr ⟨by omega, hq⟩))))))
    · refine ok_f (fun g => q8 ((nI_leI (a := 8) (b := n) (by omega) (by omega)).mp g)) ?_
      refine ok_bn (e' := nI (8 * tip)) (pk_mul 8 tip) (ok_bn (e' := nI (8 * tip + n)) (nI_add _ _) (ok_gd (inb_nI (by omega) (by decide)) ?_))
      rw [nI_clamp (n := 8 * tip + n) (by omega)]
      refine ok_bnd (ok_some (R0 (Or.inl ⟨by omega, hid tip ht n (by omega)⟩)))
set_option maxHeartbeats 1000000 in
theorem rAl_cn {nb : Nat} {rw : Nat → List Int32} {st tA tZ tI tN tNs tO tOs iA iS iL iQ oS oL oT one tC : Nat → Int32} {oV : Nat → Int64} (h : rAl rw (Vdr rw nb) (sBr rw) (tGr rw) (iGr rw) (oGr rw) st tA tZ tI tN tNs tO tOs iA iS iL iQ oS oL oT one tC oV) {c : Cn} (hv : Vdr rw nb c.1 c.2.1) (hc : c.2.2 < (txO rw c.1 c.2.1).2.2.2.1.length) : (oGr rw c.1 c.2.1 + c.2.2 < 11600 ∧ tGr rw c.1 c.2.1 < 2200 ∧ c.2.2 < 400) ∧ oV (oGr rw c.1 c.2.1 + c.2.2) = lN (cnV rw c) ∧ oT (oGr rw c.1 c.2.1 + c.2.2) = nI (tGr rw c.1 c.2.1) ∧ tI (8 * tGr rw c.1 c.2.1) = nI (leP (idT rw c.1 c.2.1) 0 4) ∧ tO (tGr rw c.1 c.2.1) = nI (oGr rw c.1 c.2.1) := by
  obtain ⟨⟨a1, a2, a3, a4, a5, a6, a7⟩, -, -, ⟨c1, c2, c3, c4, c5, c6, c7, c8⟩, -, f⟩ := h.2.2 _ _ hv
  obtain ⟨f1, f2, f3, f4⟩ := f c.2.2 hc
  exact ⟨⟨by omega, a1, by omega⟩, f1, f4, c3 0 (by decide), c6⟩
set_option maxHeartbeats 1000000 in
theorem v_M_unspent (fu : Nat) (hfu : 12000 ≤ fu) (x : Int32) {z row : Nat → Int32} {R : List Int32} (h : rRow z row R) {nb : Nat} {rw : Nat → List Int32} {hgt : Nat → Nat} (st tA tZ tI tN tNs tO tOs iA iS iL iQ oS oL oT one tC : Nat → Int32) {oV : Nat → Int64} {uO uH uN ch uI : Nat → Int32} (hA : rAl rw (Vdr rw nb) (sBr rw) (tGr rw) (iGr rw) (oGr rw) st tA tZ tI tN tNs tO tOs iA iS iL iQ oS oL oT one tC oV) {N : Nat} {cs : Nat → Cn} (hN : N ≤ 11600) (hT : rTab rw hgt (Vdr rw nb) (oGr rw) N cs uO uH uN ch uI) : ok (x_M_unspent fu row tI tO oV oT uO uN ch uI x z) (fun t => z02 z t.2 ∧ rRow t.2 row R ∧ ((R.length ≠ 32 ∧ t.2 2 = 1) ∨ (R.length = 32 ∧ fnd rw (liv N uI cs) (R, U x) = none ∧ t.2 2 = 2) ∨ (R.length = 32 ∧ t.2 2 = 0 ∧ ∃ c, fnd rw (liv N uI cs) (R, U x) = some c ∧ t.1 = lN (cnV rw c)))) := by
  have hl := h.2.1
  unfold x_M_unspent
  rw [h.1]
  by_cases q : R.length = 32
  case neg =>
    refine ok_f (fun g => q ((nI_eq32 (a := R.length) (b := 32) (by omega) (by omega)).mp g)) ?_
    unfold xb_M_unspent_15
    exact ok_bnd (ok_f (by rw [pk_us]; decide) (ok_some ⟨z02_2 z 1, rRow_2 h 1, Or.inl ⟨q, (show upd z 2 1 2 = 1 from pk_us)⟩⟩))
  refine ok_t (by rw [q]; rfl) ?_
  unfold xb_M_unspent_15
  refine ok_bnd (ok_t (by rw [pk_us]; decide) ?_)
  have eR : bl row 0 32 = R := by
    rw [rRow_w h (by omega)]
    have := bl_lf R
    rw [q] at this
    exact this
  rw [show x = nI (U x) from (nI_U x).symm]
  refine ok_bd1 (v_M_entryC fu hfu (upd z 2 0) tI tO tOs oT uO uH uN ch uI hN (rAl_C hA) hT (n1 := 3000) (by decide) (h1 := row) (a := 0) (by decide) (fun j _ => h.2.2.2.1 _) (U_lt x)) (fun v hv => ?_)
  rw [eR] at hv
  rw [U_nI (U_lt x)]
  rcases hv with ⟨rfl, -, hv⟩ | ⟨e, he, h1e, hk, rfl, hv⟩
  · refine ok_f (by decide) ?_
    unfold xb_M_unspent_48
    refine ok_bnd (ok_f (by decide) (ok_some ⟨fun j h1 h2 => (pk_un h2).trans (pk_un (f := z) h2), rRow_2 (rRow_2 h 0) 2, Or.inr (Or.inl ⟨q, hv, (show upd (upd z 2 0) 2 2 2 = 2 from pk_us)⟩)⟩))
  · obtain ⟨⟨a1, a2⟩, a3, a4, a5⟩ := hT.1 e he
    obtain ⟨⟨b1, b2, b3⟩, b4, b5, b6, b7⟩ := rAl_cn hA a1 a2
    refine ok_t ((nI_leI (a := 0) (b := e) (by omega) (by omega)).mpr (Nat.zero_le _)) ?_
    unfold xb_M_unspent_48
    refine ok_bnd (ok_t ((nI_leI (a := 0) (b := e) (by omega) (by omega)).mpr (Nat.zero_le _)) (ok_gd (inb_nI (by omega) (by decide)) ?_))
    rw [nI_clamp (n := e) (by omega), a3]
    refine ok_bnd (ok_gd (inb_nI b1 (by decide)) ?_)
    rw [nI_clamp (n := oGr rw (cs e).1 (cs e).2.1 + (cs e).2.2) (by omega), b4]
    exact ok_bnd (ok_some ⟨fun j h1 h2 => (pk_un h2).trans (pk_un (f := z) h2), rRow_2 (rRow_2 h 0) 0, Or.inr (Or.inr ⟨q, (show upd (upd z 2 0) 2 0 2 = 0 from pk_us), cs e, hv, rfl⟩)⟩)
