-- the class's machine: branches
def brQ (W : Option (Stk × List Bool)) (D : Nat → Int32) (fr : Nat) (m : Nat → Int32) (x : Int32 × Int32 × Int32 × Int32 × (Nat → Int32)) : Prop := (W = none ∧ x.1 = 0) ∨ ∃ S' I', W = some (S', I') ∧ x.1 = 1 ∧ x.2.1 = nI S'.length ∧ x.2.2.1 = nI I'.length ∧ x.2.2.2.1 = nI (offN I') ∧ tkA x.2.2.2.2 I' ∧ stH D fr m S'
set_option maxHeartbeats 1000000 in
theorem brS_len {k : Nat} {S S' : Stk} {I I' : List Bool} (h : brS k S I = some (S', I')) : S'.length ≤ S.length ∧ I'.length ≤ I.length + 1 := by
  by_cases ho : k = 99 ∨ k = 100
  · cases e : offB I with
    | true =>
      rw [brS_o ho S e] at h
      have h := Option.some.inj h
      have e1 : S = S' := congrArg Prod.fst h
      have e2 : false :: I = I' := congrArg Prod.snd h
      subst e1 e2
      exact ⟨Nat.le_refl _, Nat.le_refl _⟩
    | false =>
      cases S with
      | nil => rw [brS_e ho e] at h; exact absurd h (by simp)
      | cons x S =>
        rw [brS_x ho x S e] at h
        have h := Option.some.inj h
        have e1 : S = S' := congrArg Prod.fst h
        have e2 : _ :: I = I' := congrArg Prod.snd h
        subst e1 e2
        exact ⟨Nat.le_succ _, Nat.le_refl _⟩
  · cases I with
    | nil => rw [brS_n ho] at h; exact absurd h (by simp)
    | cons b I =>
      rw [brS_c ho] at h
      have h := Option.some.inj h
      have e1 : S = S' := congrArg Prod.fst h
      have e2 : (if k = 103 then (!b) :: I else I) = I' := congrArg Prod.snd h
      subst e1 e2
      refine ⟨Nat.le_refl _, ?_⟩
      show (if k = 103 then (!b) :: I else I).length ≤ I.length + 1 + 1
      split
      · exact Nat.le_succ _
      · omega
set_option maxHeartbeats 1000000 in
theorem c_br68 (fu : Nat) (j1 j2 j3 j4 j5 j6 : Int32) {D m : Nat → Int32} {fr : Nat} {S : Stk} {I : List Bool} {tk : Nat → Int32} (hS : stH D fr m S) (ht : tkA tk I) (hI : I.length < 202) {b : Bool} {v : Int32} (hv : tf (b = true) v) : ok (xb_Ma_branch_68 fu j1 j2 j3 j4 j5 j6 D m v (nI S.length) (nI I.length) (nI (offN I)) tk) (brQ (some (S, b :: I)) D fr m) := by
  unfold xb_Ma_branch_68 xb_Ma_branch_102
  have hof := offN_le I
  rw [nI_clamp (n := I.length) (by omega)]
  rcases hv with ⟨b1, rfl⟩ | ⟨b1, rfl⟩
  · subst b1
    refine ok_gd (inb_nI hI (by decide)) (ok_bnd (ok_bn (nI_1 _) (ok_f (by decide) (ok_bn (nI_add (offN I) 0) (ok_some (Or.inr ⟨S, true :: I, rfl, rfl, rfl, rfl, ?_, ⟨pk_us, tkA_u ht (Nat.le_refl _)⟩, hS⟩))))))
    show nI (offN I + 0) = nI (0 + offN I)
    rw [Nat.zero_add, Nat.add_zero]
  · have e : b = false := by cases b with
      | true => exact absurd rfl b1
      | false => rfl
    subst e
    refine ok_gd (inb_nI hI (by decide)) (ok_bnd (ok_bn (nI_1 _) (ok_t rfl (ok_bn (nI_add (offN I) 1) (ok_some (Or.inr ⟨S, false :: I, rfl, rfl, rfl, rfl, ?_, ⟨pk_us, tkA_u ht (Nat.le_refl _)⟩, hS⟩))))))
    show nI (offN I + 1) = nI (1 + offN I)
    rw [Nat.add_comm]
set_option maxHeartbeats 1000000 in
theorem v_Ma_branch (fu : Nat) (hfu : 300 ≤ fu) (j1 j2 j3 j4 j5 j6 : Int32) {D m : Nat → Int32} (hD : ftB D) {fr : Nat} (hfr : fr ≤ 14928) {S : Stk} {I : List Bool} {tk : Nat → Int32} (hS : stH D fr m S) (hl : S.length ≤ 204) (ht : tkA tk I) (hI : I.length < 202) {k : Nat} (hk : k = 99 ∨ k = 100 ∨ k = 103 ∨ k = 104) : ok (x_Ma_branch fu j1 j2 j3 j4 j5 j6 D m (nI k) (nI S.length) (nI I.length) (nI (offN I)) tk) (brQ (brS k S I) D fr m) := by
  unfold x_Ma_branch
  have hof := offN_le I
  by_cases c1 : 100 < k
  · have ho : ¬ (k = 99 ∨ k = 100) := by omega
    refine ok_t ((nI_ltI (a := 100) (by omega) (by omega)).mpr c1) ?_
    cases I with
    | nil =>
      rw [brS_n ho]
      exact ok_f (by decide) (ok_some (Or.inl ⟨rfl, rfl⟩))
    | cons b I =>
      replace hI : I.length + 1 < 202 := hI
      have t1 : tk I.length = if b then 1 else 0 := ht.1
      rw [brS_c ho]
      have hofI := offN_le I
      refine ok_t ((nI_leI (a := 1) (b := I.length + 1) (by omega) (by omega)).mpr (by omega)) ?_
      have es : nI (I.length + 1) - (1 : Int32) = nI I.length := nI_sb (a := I.length + 1) (b := 1) (by omega)
      refine ok_op (k := 103) (by omega) (by decide) rfl (fun e => ?_) (fun e => ?_)
      · rw [if_pos e]
        refine ok_bn es (ok_bn es (ok_gd (inb_nI (by omega) (by decide)) ?_))
        rw [nI_clamp (n := I.length) (by omega), t1]
        refine ok_bnd ?_
        unfold xb_Ma_branch_153 xb_Ma_branch_178
        cases b with
        | true =>
          refine ok_f (by decide) (ok_gd (inb_nI (by omega) (by decide)) ?_)
          rw [nI_clamp (n := I.length) (by omega), show vp_nar .boolean (0 : Int32) = (0 : Int32) from rfl]
          refine ok_bnd (ok_bn es (ok_gd (inb_nI (by omega) (by decide)) ?_))
          rw [nI_clamp (n := I.length) (by omega)]
          refine ok_bn (e' := (0 : Int32)) pk_us (ok_t rfl (ok_bn (e' := nI (offN I + 1)) ?_ (ok_some (Or.inr ⟨S, false :: I, rfl, rfl, rfl, rfl, ?_, ⟨pk_us, tkA_u ht.2 (Nat.le_refl _)⟩, hS⟩))))
          · rw [show offN (true :: I) = offN I from Nat.zero_add _]
            exact nI_1 _
          · show nI (offN I + 1) = nI (1 + offN I)
            rw [Nat.add_comm]
        | false =>
          refine ok_t rfl (ok_gd (inb_nI (by omega) (by decide)) ?_)
          rw [nI_clamp (n := I.length) (by omega), show vp_nar .boolean (1 : Int32) = (1 : Int32) from rfl]
          refine ok_bnd (ok_bn es (ok_gd (inb_nI (by omega) (by decide)) ?_))
          rw [nI_clamp (n := I.length) (by omega)]
          refine ok_bn (e' := (1 : Int32)) pk_us (ok_f (by decide) (ok_bn (e' := nI (offN I)) ?_ (ok_some (Or.inr ⟨S, true :: I, rfl, rfl, rfl, rfl, ?_, ⟨pk_us, tkA_u ht.2 (Nat.le_refl _)⟩, hS⟩))))
          · rw [show offN (false :: I) = offN I + 1 from Nat.add_comm _ _]
            exact m1_e (a := offN I + 1) (by omega)
          · show nI (offN I) = nI (0 + offN I)
            rw [Nat.zero_add]
      · rw [if_neg e]
        refine ok_bn es (ok_gd (inb_nI (by omega) (by decide)) ?_)
        rw [nI_clamp (n := I.length) (by omega), t1]
        refine ok_bnd ?_
        unfold xb_Ma_branch_216
        cases b with
        | true =>
          refine ok_f (by decide) (ok_bn (e' := nI (offN I)) ?_ (ok_some (Or.inr ⟨S, I, rfl, rfl, rfl, rfl, rfl, ht.2, hS⟩)))
          rw [show offN (true :: I) = offN I from Nat.zero_add _]
          exact nI_sb (a := offN I) (b := 0) (by omega)
        | false =>
          refine ok_t rfl (ok_bn (e' := nI (offN I)) ?_ (ok_some (Or.inr ⟨S, I, rfl, rfl, rfl, rfl, rfl, ht.2, hS⟩)))
          rw [show offN (false :: I) = offN I + 1 from Nat.add_comm _ _]
          exact nI_sb (a := offN I + 1) (b := 1) (by omega)
  · have ho : k = 99 ∨ k = 100 := by omega
    refine ok_f (fun e => c1 ((nI_ltI (a := 100) (by omega) (by omega)).mp e)) ?_
    by_cases c : offN I = 0
    · have c' := (offN_0 I).mp c
      refine ok_t (by rw [c]; rfl) ?_
      cases S with
      | nil =>
        rw [brS_e ho c']
        exact ok_f (by decide) (ok_some (Or.inl ⟨rfl, rfl⟩))
      | cons x S =>
        replace hl : S.length + 1 ≤ 204 := hl
        rw [brS_x ho x S c']
        refine ok_t ((nI_leI (a := 1) (b := S.length + 1) (by omega) (by omega)).mpr (by omega)) (ok_bn (e' := nI S.length) (nI_sb (a := S.length + 1) (b := 1) (by omega)) (ok_gd (inb_nI (by omega) (by decide)) ?_))
        rw [nI_clamp (n := S.length) (by omega)]
        refine ok_bnd (ok_bd1 (v_Ma_isTrue fu hfu (nI S.length) j1 j2 (nI I.length) (nI (offN I)) j3 j4 j5 j6 hD hfr hS.1) (fun v hv => ?_))
        unfold xb_Ma_branch_59 xb_Ma_branch_67
        have G : ∀ y0 : Int32, tf (k = 99) y0 → ok (if v = y0 then xb_Ma_branch_68 fu j1 j2 j3 j4 j5 j6 D m (1 : Int32) (nI S.length) (nI I.length) (nI (offN I)) tk else xb_Ma_branch_68 fu j1 j2 j3 j4 j5 j6 D m (0 : Int32) (nI S.length) (nI I.length) (nI (offN I)) tk) (brQ (some (S, decide (truB x = decide (k = 99)) :: I)) D fr m) := fun y0 hy => by
          have iv := tf_iff hv hy
          by_cases q : v = y0
          · refine ok_t q (c_br68 fu j1 j2 j3 j4 j5 j6 hS.2 ht hI (tf_1 ?_))
            have := iv.mp q
            cases e : truB x with
            | true => rw [e] at this; exact decide_eq_true (decide_eq_true (this.mp rfl)).symm
            | false => rw [e] at this; exact decide_eq_true (decide_eq_false (fun w => absurd (this.mpr w) (by decide))).symm
          · refine ok_f q (c_br68 fu j1 j2 j3 j4 j5 j6 hS.2 ht hI (tf_0 ?_))
            intro w
            have w := of_decide_eq_true w
            refine q (iv.mpr ⟨fun t => ?_, fun t => ?_⟩)
            · rw [t] at w; exact of_decide_eq_true w.symm
            · rw [w]; exact decide_eq_true t
        refine ok_op (k := 99) (by omega) (by decide) rfl (fun e => ?_) (fun e => ?_)
        · exact G 1 (tf_1 e)
        · exact G 0 (tf_0 e)
    · have c' : offB I = true := by
        cases e : offB I with
        | true => rfl
        | false => exact absurd ((offN_0 I).mpr e) c
      rw [brS_o ho S c']
      refine ok_f (fun e => c ((nI_eq (b := 0) (by omega) (by omega)).mp e)) ?_
      exact c_br68 fu j1 j2 j3 j4 j5 j6 hS ht hI (tf_0 (by decide))
