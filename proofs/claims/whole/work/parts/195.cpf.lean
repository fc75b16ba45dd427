-- the class's machine: one op
/-- what an op leaves -/
def pfQ (W : Option (Stk × Stk × Nat)) (ops fr : Nat) (D0 : Nat → Int32) (b h oh f : Int32) (D' m' o' : Nat → Int32) : Prop := ftB D' ∧ (∀ j, j < fr → D' j = D0 j) ∧ ((W = none ∧ b = 0) ∨ ∃ S' A' fr', W = some (S', A', ops) ∧ b = 1 ∧ h = nI S'.length ∧ oh = nI A'.length ∧ f = nI fr' ∧ (fr ≤ fr' ∧ fr' ≤ fr + 32) ∧ stH D' fr' m' S' ∧ stH D' fr' o' A' ∧ S'.length + A'.length ≤ 202)
set_option maxHeartbeats 1000000 in
theorem pfQ_m {W : Option (Stk × Stk × Nat)} {A : Stk} {ops fr : Nat} {D0 : Nat → Int32} {b h f : Int32} {D' m' o : Nat → Int32} (hA : stH D0 fr o A) (w : maQ W A ops fr D0 b h f D' m') : pfQ W ops fr D0 b h (nI A.length) f D' m' o := by
  obtain ⟨w1, w2, w3⟩ := w
  refine ⟨w1, w2, ?_⟩
  rcases w3 with w3 | ⟨S', fr', e1, e2, e3, e4, e5, e6, e7⟩
  · exact Or.inl w3
  · exact Or.inr ⟨S', A, fr', e1, e2, e3, rfl, e4, e5, e6, stH_k e5.1 (fun j _ h => w2 j h) hA (fun _ _ => rfl), e7⟩
abbrev T16 : Type := Int32 × Int32 × Int32 × Int32 × Int32 × Int64 × (Nat → Int32) × (Nat → Int32) × (Nat → Int32) × (Nat → Int32) × (Nat → Int32) × (Nat → Int32) × (Nat → Int32) × (Nat → Int32) × (Nat → Int32) × (Nat → Int32)
def pfQ16 (W : Option (Stk × Stk × Nat)) (ops fr : Nat) (D0 : Nat → Int32) (x : T16) : Prop := pfQ W ops fr D0 x.1 x.2.1 x.2.2.1 x.2.2.2.1 x.2.2.2.2.2.2.2.2.2.2.2.2.2.1 x.2.2.2.2.2.2.2.2.2.2.2.2.2.2.1 x.2.2.2.2.2.2.2.2.2.2.2.2.2.2.2
set_option maxHeartbeats 1000000 in
theorem c_pf43 (fu : Nat) (k1 k2 k3 k4 k5 k6 : Int32) (sg : List Int32 → List Int32 → Bool) {D m o : Nat → Int32} {fr : Nat} {S A : Stk} (ops : Nat) (h : kM D fr m o S A) {k : Nat} (hk : k = 107 ∨ k = 108) (u3 : Int32) (u4 : Int64) (u5 u6 u7 u8 u9 u10 u11 : Nat → Int32) : ok (xb_Ma_perform_43 fu k1 k2 k3 k4 k5 k6 (nI k) (nI S.length) (nI A.length) (nI fr) u3 u4 u5 u6 u7 u8 u9 u10 u11 D m o) (pfQ16 (opS sg hsF k S A ops) ops fr D) := by
  have hD := h.2.2.1
  have hl := h.2.2.2.2.1
  unfold xb_Ma_perform_43
  rcases hk with rfl | rfl
  · refine ok_t rfl ?_
    unfold x_Ma_toOther
    cases S with
    | nil => exact ok_bd4 (ok_f (by decide) (ok_some (P := fun y : Int32 × Int32 × Int32 × (Nat → Int32) => y.1 = 0) rfl)) (fun v a b c e => by replace e : v = 0 := e; subst e; exact ok_gd (by decide) (ok_some ⟨hD, fun _ _ => rfl, Or.inl ⟨rfl, rfl⟩⟩))
    | cons x S =>
      replace hl : S.length + 1 + A.length ≤ 200 := hl
      have V : ok (if (1 : Int32) ≤ nI (S.length + 1) then (bnd (nI (S.length + 1) - (1 : Int32)) fun v1 => gd (inb v1 204) <| bnd (m v1.toNatClampNeg) fun v2 => gd (inb (nI A.length) 204) <| bnd (upd o (nI A.length).toNatClampNeg v2) fun f3 => bnd (nI A.length + (1 : Int32)) fun v4 => some ((1 : Int32), v1, v4, f3)) else some ((0 : Int32), nI (S.length + 1), nI A.length, o)) (fun y => y.1 = 1 ∧ y.2.1 = nI S.length ∧ y.2.2.1 = nI (A.length + 1) ∧ y.2.2.2 = upd o A.length (m S.length)) := by
        refine ok_t ((nI_leI (a := 1) (b := S.length + 1) (by omega) (by omega)).mpr (by omega)) (ok_bn (e' := nI S.length) (nI_sb (a := S.length + 1) (b := 1) (by omega)) (ok_gd (inb_nI (by omega) (by decide)) ?_))
        rw [nI_clamp (n := S.length) (by omega), nI_clamp (n := A.length) (by omega)]
        exact ok_bnd (ok_gd (inb_nI (by omega) (by decide)) (ok_bnd (ok_bn (nI_1 _) (ok_some ⟨rfl, rfl, rfl, rfl⟩))))
      refine ok_bd4 V (fun v a b c e => ?_)
      obtain ⟨e1, e2, e3, e4⟩ := e
      replace e1 : v = 1 := e1
      replace e4 : c = upd o A.length (m S.length) := e4
      subst e1 e4
      refine ok_gd (by decide) (ok_some ⟨hD, fun _ _ => rfl, Or.inr ⟨S, x :: A, fr, rfl, rfl, e2, e3, rfl, by omega, h.1.2, stH_p h.2.1 h.1.1 rfl, by show S.length + (A.length + 1) ≤ 202; omega⟩⟩)
  · refine ok_f (by decide) ?_
    unfold x_Ma_fromOther
    cases A with
    | nil => exact ok_bd4 (ok_f (by decide) (ok_some (P := fun y : Int32 × Int32 × Int32 × (Nat → Int32) => y.1 = 0) rfl)) (fun v a b c e => by replace e : v = 0 := e; subst e; exact ok_gd (by decide) (ok_some ⟨hD, fun _ _ => rfl, Or.inl ⟨rfl, rfl⟩⟩))
    | cons x A =>
      replace hl : S.length + (A.length + 1) ≤ 200 := hl
      have V : ok (if (1 : Int32) ≤ nI (A.length + 1) then (bnd (nI (A.length + 1) - (1 : Int32)) fun v1 => gd (inb v1 204) <| bnd (o v1.toNatClampNeg) fun v2 => bd2 (x_Ma_push fu v1 k1 k2 k3 (nI fr) k4 k5 k6 v2 (nI S.length) m) fun e3 f4 => some ((1 : Int32), e3, v1, f4)) else some ((0 : Int32), nI S.length, nI (A.length + 1), m)) (fun y => y.1 = 1 ∧ y.2.1 = nI (S.length + 1) ∧ y.2.2.1 = nI A.length ∧ y.2.2.2 = upd m S.length (o A.length)) := by
        refine ok_t ((nI_leI (a := 1) (b := A.length + 1) (by omega) (by omega)).mpr (by omega)) (ok_bn (e' := nI A.length) (nI_sb (a := A.length + 1) (b := 1) (by omega)) (ok_gd (inb_nI (by omega) (by decide)) ?_))
        rw [nI_clamp (n := A.length) (by omega)]
        exact ok_bnd (ok_bd2 (v_Ma_push fu (nI A.length) k1 k2 k3 (nI fr) k4 k5 k6 _ m (show S.length < 204 by omega)) (fun a b w => ok_some ⟨rfl, w.1, rfl, w.2⟩))
      refine ok_bd4 V (fun v a b c e => ?_)
      obtain ⟨e1, e2, e3, e4⟩ := e
      replace e1 : v = 1 := e1
      replace e4 : c = upd m S.length (o A.length) := e4
      subst e1 e4
      refine ok_gd (by decide) (ok_some ⟨hD, fun _ _ => rfl, Or.inr ⟨x :: S, A, fr, rfl, rfl, e2, e3, rfl, by omega, stH_p h.1 h.2.1.1 rfl, h.2.1.2, by show S.length + 1 + A.length ≤ 202; omega⟩⟩)
set_option maxHeartbeats 1000000 in
theorem v_Ma_perform (fu : Nat) (hfu : 1600 ≤ fu) (k1 k2 k3 k4 k5 k6 : Int32) (sg : List Int32 → List Int32 → Bool) {D m o : Nat → Int32} {fr : Nat} {S A : Stk} (ops : Nat) (h : kM D fr m o S A) {k : Nat} (hk : 76 < k ∧ k < 256) (hb : ¬ (k = 99 ∨ k = 100 ∨ k = 103 ∨ k = 104)) (hc : ¬ (172 ≤ k ∧ k ≤ 175)) (u3 : Int32) (u4 : Int64) (u5 u6 u7 u8 u9 u10 u11 : Nat → Int32) : ok (x_Ma_perform fu k1 k2 k3 k4 k5 k6 (nI k) (nI S.length) (nI A.length) (nI fr) u3 u4 u5 u6 u7 u8 u9 u10 u11 D m o) (pfQ16 (opS sg hsF k S A ops) ops fr D) := by
  have hD := h.2.2.1
  have hl := h.2.2.2.2.1
  have hfr := h.2.2.2.2.2
  have hA := h.2.1
  unfold x_Ma_perform xb_Ma_perform_88
  by_cases c1 : 96 < k
  · refine ok_t ((nI_ltI (a := 96) (by omega) (by omega)).mpr c1) ?_
    refine ok_op (k := 97) hk.2 (by decide) rfl (fun e => ?_) (fun n1 => ?_)
    · subst e
      exact ok_some (pfQ_m hA (maQ_1 (S' := S) hD rfl rfl h.1 (by omega)))
    refine ok_op (k := 105) hk.2 (by decide) rfl (fun e => ?_) (fun n2 => ?_)
    · subst e
      refine ok_bd2 (v_Ma_verifyTop fu (by omega) (nI A.length) k1 k2 k3 (nI fr) k4 k5 k6 hD (by omega) h.1 (by omega)) (fun v e w => ?_)
      have eW : opS sg hsF 105 S A ops = (vtS S).map fun S' => (S', A, ops) := by
        cases S with
        | nil => rfl
        | cons x S =>
          show (if truB x = true then some (S, A, ops) else none) = (if truB x = true then some S else none).map _
          split <;> rfl
      rw [eW]
      rcases w with ⟨w1, w2⟩ | ⟨S', w1, w2, w3, w4, w5⟩
      · replace w2 : v = 0 := w2
        subst w2
        exact ok_gd (by decide) (ok_some (pfQ_m hA (maQ_0 hD (by rw [w1]; rfl))))
      · replace w2 : v = 1 := w2
        subst w2
        exact ok_gd (by decide) (ok_some (pfQ_m hA (maQ_1 (S' := S') hD (by rw [w1]; rfl) w3 w4 (by omega))))
    refine ok_op (k := 107) hk.2 (by decide) rfl (fun e => c_pf43 fu k1 k2 k3 k4 k5 k6 sg ops h (Or.inl e) u3 u4 u5 u6 u7 u8 u9 u10 u11) (fun n3 => ?_)
    refine ok_op (k := 108) hk.2 (by decide) rfl (fun e => c_pf43 fu k1 k2 k3 k4 k5 k6 sg ops h (Or.inr e) u3 u4 u5 u6 u7 u8 u9 u10 u11) (fun n4 => ?_)
    by_cases c2 : 130 < k
    · refine ok_t ((nI_ltI (a := 130) (by omega) (by omega)).mpr c2) ?_
      refine ok_op (k := 135) hk.2 (by decide) rfl (fun e => ?_) (fun n5 => ?_)
      · refine ok_bd3 (v_Ma_compareTop fu hfu (nI A.length) k1 k2 k3 k4 k5 k6 sg ops h (k := k) (Or.inl e)) (fun v e f w => ok_gd (maQ_isb w) (ok_some (pfQ_m hA w)))
      refine ok_op (k := 136) hk.2 (by decide) rfl (fun e => ?_) (fun n6 => ?_)
      · refine ok_bd3 (v_Ma_compareTop fu hfu (nI A.length) k1 k2 k3 k4 k5 k6 sg ops h (k := k) (Or.inr e)) (fun v e f w => ok_gd (maQ_isb w) (ok_some (pfQ_m hA w)))
      by_cases c3 : 146 < k
      · refine ok_t ((nI_ltI (a := 146) (by omega) (by omega)).mpr c3) ?_
        by_cases c4 : 164 < k
        · refine ok_t ((nI_ltI (a := 164) (by omega) (by omega)).mpr c4) ?_
          refine ok_op (k := 165) hk.2 (by decide) rfl (fun e => ?_) (fun n7 => ?_)
          · subst e
            exact ok_bd3 (v_Ma_within fu hfu (nI A.length) k1 k2 k3 k4 k5 k6 sg ops h) (fun v e f w => ok_gd (maQ_isb w) (ok_some (pfQ_m hA w)))
          · exact ok_bd14 (v_Ma_digestTop fu hfu (nI A.length) k1 k2 k3 k4 k5 k6 sg ops h (k := k) ⟨by omega, hk.2, hc⟩ u3 u4 u5 u6 u7 u8 u9 u10 u11) (fun v e2 e3 e4 e5 f6 f7 f8 f9 f10 f11 f12 f13 f14 w => ok_gd (maQ_isb w) (ok_some (pfQ_m hA w)))
        · refine ok_f (fun e => c4 ((nI_ltI (a := 164) (by omega) (by omega)).mp e)) ?_
          exact ok_bd5 (v_Ma_joinNumbers fu hfu (nI A.length) k1 k2 k3 k4 k5 k6 sg ops h (k := k) ⟨by omega, by omega⟩) (fun v e f g i w => ok_gd (maQ_isb w) (ok_some (pfQ_m hA w)))
      · refine ok_f (fun e => c3 ((nI_ltI (a := 146) (by omega) (by omega)).mp e)) ?_
        exact ok_bd5 (v_Ma_changeNumber fu hfu (nI A.length) k1 k2 k3 k4 k5 k6 sg ops h (k := k) ⟨by omega, by omega, n5, n6⟩) (fun v e f g i w => ok_gd (maQ_isb w) (ok_some (pfQ_m hA w)))
    · refine ok_f (fun e => c2 ((nI_ltI (a := 130) (by omega) (by omega)).mp e)) ?_
      exact ok_bd5 (v_Ma_arrange fu hfu (nI A.length) k1 k2 k3 k4 k5 k6 sg ops h (k := k) (by omega)) (fun v e f g i w => ok_gd (maQ_isb w) (ok_some (pfQ_m hA w)))
  · refine ok_f (fun e => c1 ((nI_ltI (a := 96) (by omega) (by omega)).mp e)) ?_
    exact ok_bd3 (v_Ma_pushSmall fu (nI A.length) k1 k2 k3 (nI fr) k4 k5 k6 sg ops h (k := k) ⟨hk.1, by omega⟩) (fun v e f w => ok_gd (maQ_isb w) (ok_some (pfQ_m hA w)))
set_option maxHeartbeats 1000000 in
theorem v_Ma_performS (fu : Nat) (k1 k2 k3 k4 k5 k6 : Int32) (sg : List Int32 → List Int32 → Bool) {D m o : Nat → Int32} {fr : Nat} {S A : Stk} (ops : Nat) (hS : stH D fr m S) (hA : stH D fr o A) (hD : ftB D) (hs : smD D) (hl : S.length + A.length ≤ 200) (hfr : 2064 ≤ fr) {k : Nat} (hk : 76 < k ∧ k ≤ 96) (u3 : Int32) (u4 : Int64) (u5 u6 u7 u8 u9 u10 u11 : Nat → Int32) : ok (x_Ma_perform fu k1 k2 k3 k4 k5 k6 (nI k) (nI S.length) (nI A.length) (nI fr) u3 u4 u5 u6 u7 u8 u9 u10 u11 D m o) (fun x => pfQ16 (opS sg hsF k S A ops) ops fr D x ∧ x.2.2.2.1 = nI fr) := by
  unfold x_Ma_perform
  refine ok_f (fun e => by have := (nI_ltI (a := 96) (by omega) (by omega)).mp e; omega) ?_
  exact ok_bd3 (v_Ma_pushS fu (nI A.length) k1 k2 k3 (nI fr) k4 k5 k6 sg ops hS hD hs hl hfr hk) (fun v e f w => ok_gd (maQ_isb w) (ok_some ⟨pfQ_m hA w, rfl⟩))
