-- the reference's machine: many signatures
set_option maxHeartbeats 600000 in
theorem l_mn169z (fu : Nat) (st e1 e2 e3 e4 e5 e6 e7 e8 : Nat → Int32) (x1 x4 x5 x8 x9 x10 : Int32) (x6 : Int64) (z th sz s1 s2 s3 s4 s5 s6 s7 s8 s9 s10 s11 s12 s13 s14 s15 s16 s17 s18 s19 s20 s21 s22 s23 s24 s25 mg : Nat → Int32) (Q : T30 → Prop) (h : ok (xb_M_many_215 fu st e1 e2 e3 e4 e5 e6 e7 e8 x1 x5 x6 (0 : Int32) z s1 s2 s3 s4 s5 s6 s7 s8 s9 s10 s11 s12 s13 s14 s15 s16 s17 s18 s19 s20 s21 s22 s23 s24 s25 th sz mg) Q) (n : Nat) (hn : 0 < n) : ok (x_M_many_169 fu st e1 e2 e3 e4 e5 e6 e7 e8 n x1 x4 x5 x6 x8 x9 x10 (0 : Int32) z s1 s2 s3 s4 s5 s6 s7 s8 s9 s10 s11 s12 s13 s14 s15 s16 s17 s18 s19 s20 s21 s22 s23 s24 s25 th sz mg) Q := by
  obtain ⟨n, rfl⟩ : ∃ m, n = m + 1 := ⟨n - 1, by omega⟩
  show ok (xb_M_many_169 fu st e1 e2 e3 e4 e5 e6 e7 e8 (x_M_many_169 fu st e1 e2 e3 e4 e5 e6 e7 e8 n) x1 x4 x5 x6 x8 x9 x10 (0 : Int32) z s1 s2 s3 s4 s5 s6 s7 s8 s9 s10 s11 s12 s13 s14 s15 s16 s17 s18 s19 s20 s21 s22 s23 s24 s25 th sz mg) _
  unfold xb_M_many_169
  exact ok_t rfl h
set_option maxHeartbeats 600000 in
theorem m1_e {a : Nat} (h : 0 < a) : nI a + (-1 : Int32) = nI (a - 1) := by
  have := nI_sb (a := a) (b := 1) h
  rw [Int32.sub_eq_add_neg] at this
  exact this
set_option maxHeartbeats 600000 in
theorem l_mn169 (fu : Nat) (sg : List Int32 → List Int32 → Bool) (st e1 e2 e3 e4 e5 e6 e7 e8 : Nat → Int32) {z0 th sz : Nat → Int32} (hE : sgE fu st e1 e2 e3 e4 e5 e6 e7 e8 z0 sg) (hT : ftB th) {x1 : Int32} {x6 : Int64} {at' m : Nat} (ha : at' < 300) (hm : m + 1 ≤ at') (Q : T30 → Prop) : ∀ ks ss n z (s1 s2 s3 s4 s5 s6 s7 s8 s9 s10 s11 s12 s13 s14 s15 s16 s17 s18 s19 s20 s21 s22 s23 s24 s25 mg : Nat → Int32), zf z0 z → ss.length ≤ ks.length → ss.length ≤ m → ks.length ≤ 20 → ks.length + 1 < n → stU th sz (at' + 1) ks → stU th sz (at' - m) ss → (∀ x11 z' (t1 t2 t3 t4 t5 t6 t7 t8 t9 t10 t11 t12 t13 t14 t15 t16 t17 t18 t19 t20 t21 t22 t23 t24 t25 mg' : Nat → Int32), tf (cml sg ks ss = true) x11 → (∀ j, j ≠ 8 → z' j = z j) → ok (xb_M_many_215 fu st e1 e2 e3 e4 e5 e6 e7 e8 x1 (nI at') x6 x11 z' t1 t2 t3 t4 t5 t6 t7 t8 t9 t10 t11 t12 t13 t14 t15 t16 t17 t18 t19 t20 t21 t22 t23 t24 t25 th sz mg') Q) → ok (x_M_many_169 fu st e1 e2 e3 e4 e5 e6 e7 e8 n x1 (nI (at' + ks.length)) (nI at') x6 (nI (at' - m + ss.length - 1)) (nI ks.length) (nI ss.length) (1 : Int32) z s1 s2 s3 s4 s5 s6 s7 s8 s9 s10 s11 s12 s13 s14 s15 s16 s17 s18 s19 s20 s21 s22 s23 s24 s25 th sz mg) Q := by
  intro ks
  induction ks with
  | nil =>
    intro ss n z s1 s2 s3 s4 s5 s6 s7 s8 s9 s10 s11 s12 s13 s14 s15 s16 s17 s18 s19 s20 s21 s22 s23 s24 s25 mg hz h1 h2 h3 hn hk hs hQ
    have es : ss = [] := List.eq_nil_of_length_eq_zero (by replace h1 : ss.length ≤ 0 := h1; omega)
    subst es
    obtain ⟨n, rfl⟩ : ∃ m, n = m + 1 := ⟨n - 1, by omega⟩
    show ok (xb_M_many_169 fu st e1 e2 e3 e4 e5 e6 e7 e8 (x_M_many_169 fu st e1 e2 e3 e4 e5 e6 e7 e8 n) x1 (nI (at' + 0)) (nI at') x6 (nI (at' - m + 0 - 1)) (nI 0) (nI 0) (1 : Int32) z s1 s2 s3 s4 s5 s6 s7 s8 s9 s10 s11 s12 s13 s14 s15 s16 s17 s18 s19 s20 s21 s22 s23 s24 s25 th sz mg) _
    unfold xb_M_many_169
    exact ok_f (by decide) (ok_t (by decide) (hQ _ _ s1 s2 s3 s4 s5 s6 s7 s8 s9 s10 s11 s12 s13 s14 s15 s16 s17 s18 s19 s20 s21 s22 s23 s24 s25 mg (tf_1 rfl) (fun _ _ => rfl)))
  | cons k ks ih =>
    intro ss n z s1 s2 s3 s4 s5 s6 s7 s8 s9 s10 s11 s12 s13 s14 s15 s16 s17 s18 s19 s20 s21 s22 s23 s24 s25 mg hz h1 h2 h3 hn hk hs hQ
    obtain ⟨n, rfl⟩ : ∃ m, n = m + 1 := ⟨n - 1, by omega⟩
    replace h3 : ks.length + 1 ≤ 20 := h3
    replace hn : ks.length + 1 + 1 < n + 1 := hn
    cases ss with
    | nil =>
      show ok (xb_M_many_169 fu st e1 e2 e3 e4 e5 e6 e7 e8 (x_M_many_169 fu st e1 e2 e3 e4 e5 e6 e7 e8 n) x1 (nI (at' + (ks.length + 1))) (nI at') x6 (nI (at' - m + 0 - 1)) (nI (ks.length + 1)) (nI 0) (1 : Int32) z s1 s2 s3 s4 s5 s6 s7 s8 s9 s10 s11 s12 s13 s14 s15 s16 s17 s18 s19 s20 s21 s22 s23 s24 s25 th sz mg) _
      unfold xb_M_many_169
      exact ok_f (by decide) (ok_t (by decide) (hQ _ _ s1 s2 s3 s4 s5 s6 s7 s8 s9 s10 s11 s12 s13 s14 s15 s16 s17 s18 s19 s20 s21 s22 s23 s24 s25 mg (tf_1 rfl) (fun _ _ => rfl)))
    | cons s ss =>
      replace h1 : ss.length + 1 ≤ ks.length + 1 := h1
      replace h2 : ss.length + 1 ≤ m := h2
      show ok (xb_M_many_169 fu st e1 e2 e3 e4 e5 e6 e7 e8 (x_M_many_169 fu st e1 e2 e3 e4 e5 e6 e7 e8 n) x1 (nI (at' + (ks.length + 1))) (nI at') x6 (nI (at' - m + (ss.length + 1) - 1)) (nI (ks.length + 1)) (nI (ss.length + 1)) (1 : Int32) z s1 s2 s3 s4 s5 s6 s7 s8 s9 s10 s11 s12 s13 s14 s15 s16 s17 s18 s19 s20 s21 s22 s23 s24 s25 th sz mg) _
      unfold xb_M_many_169
      have k0 := hk.1
      have g0 := hs.1
      rw [show at' + 1 + ks.length = at' + (ks.length + 1) from by omega] at k0
      rw [show at' - m + ss.length = at' - m + (ss.length + 1) - 1 from by omega] at g0
      refine ok_f (by decide) (ok_f (fun e => by have := (nI_leI (a := ss.length + 1) (b := 0) (by omega) (by omega)).mp e; omega) ?_)
      refine ok_bd28 (hE th sz _ _ k s z hT hz (by omega) (by omega) k0 g0 s1 s2 s3 s4 s5 s6 s7 s8 s9 s10 s11 s12 s13 s14 s15 s16 s17 s18 s19 s20 s21 s22 s23 s24 s25 mg) (fun v f1 f2 f3 f4 f5 f6 f7 f8 f9 f10 f11 f12 f13 f14 f15 f16 f17 f18 f19 f20 f21 f22 f23 f24 f25 f26 f27 hq => ?_)
      obtain ⟨hv, hz8⟩ := hq
      replace hz8 : ∀ j, j ≠ 8 → f1 j = z j := hz8
      replace hv : tf (sg k s = true) v := hv
      have hzf : zf z0 f1 := zf_t hz (zf_8 hz8)
      have ec : cml sg (k :: ks) (s :: ss) = if sg k s = true then cml sg ks ss else cml sg ks (s :: ss) := rfl
      refine ok_tf hv (fun q => ?_) (fun q => ok_bn (m1_e (by omega)) (ok_bn (m1_e (by omega)) ?_))
      · rw [if_neg q] at ec
        unfold xb_M_many_196
        rw [m1_e (show 0 < at' + (ks.length + 1) by omega), m1_e (show 0 < ks.length + 1 by omega)]
        refine ok_bnd (ok_bnd ?_)
        rw [show ks.length + 1 - 1 = ks.length from rfl, show at' + (ks.length + 1) - 1 = at' + ks.length from rfl]
        by_cases c : ss.length + 1 ≤ ks.length
        · refine ok_t ((nI_leI (by omega) (by omega)).mpr c) ?_
          exact ih (s :: ss) n f1 f2 f3 f4 f5 f6 f7 f8 f9 f10 f11 f12 f13 f14 f15 f16 f17 f18 f19 f20 f21 f22 f23 f24 f25 f26 f27 hzf c h2 (by omega) (by omega) hk.2 hs (fun x11 z' t1 t2 t3 t4 t5 t6 t7 t8 t9 t10 t11 t12 t13 t14 t15 t16 t17 t18 t19 t20 t21 t22 t23 t24 t25 mg' a b => hQ x11 z' t1 t2 t3 t4 t5 t6 t7 t8 t9 t10 t11 t12 t13 t14 t15 t16 t17 t18 t19 t20 t21 t22 t23 t24 t25 mg' (by rw [ec]; exact a) (fun j hj => by rw [b j hj, hz8 j hj]))
        · refine ok_f (fun e => c ((nI_leI (by omega) (by omega)).mp e)) ?_
          refine l_mn169z fu st e1 e2 e3 e4 e5 e6 e7 e8 _ _ _ _ _ _ _ f1 th sz f2 f3 f4 f5 f6 f7 f8 f9 f10 f11 f12 f13 f14 f15 f16 f17 f18 f19 f20 f21 f22 f23 f24 f25 f26 f27 Q (hQ 0 f1 f2 f3 f4 f5 f6 f7 f8 f9 f10 f11 f12 f13 f14 f15 f16 f17 f18 f19 f20 f21 f22 f23 f24 f25 f26 f27 (tf_0 ?_) hz8) n (by omega)
          rw [ec, cml_len sg ks (s :: ss) (by show ks.length < ss.length + 1; omega)]
          decide
      · rw [if_pos q] at ec
        unfold xb_M_many_196
        rw [m1_e (show 0 < at' + (ks.length + 1) by omega), m1_e (show 0 < ks.length + 1 by omega)]
        refine ok_bnd (ok_bnd ?_)
        rw [show ks.length + 1 - 1 = ks.length from rfl, show at' + (ks.length + 1) - 1 = at' + ks.length from rfl, show ss.length + 1 - 1 = ss.length from rfl, show at' - m + (ss.length + 1) - 1 - 1 = at' - m + ss.length - 1 from by omega]
        refine ok_t ((nI_leI (by omega) (by omega)).mpr (by omega)) ?_
        exact ih ss n f1 f2 f3 f4 f5 f6 f7 f8 f9 f10 f11 f12 f13 f14 f15 f16 f17 f18 f19 f20 f21 f22 f23 f24 f25 f26 f27 hzf (by omega) (by omega) (by omega) (by omega) hk.2 hs.2 (fun x11 z' t1 t2 t3 t4 t5 t6 t7 t8 t9 t10 t11 t12 t13 t14 t15 t16 t17 t18 t19 t20 t21 t22 t23 t24 t25 mg' a b => hQ x11 z' t1 t2 t3 t4 t5 t6 t7 t8 t9 t10 t11 t12 t13 t14 t15 t16 t17 t18 t19 t20 t21 t22 t23 t24 t25 mg' (by rw [ec]; exact a) (fun j hj => by rw [b j hj, hz8 j hj]))
/-- what ops 174 (0) and 175 (1) do -/
def mnS (sg : List Int32 → List Int32 → Bool) (vf : Int32) (S A : Stk) (ops : Nat) : Option (Stk × Stk × Nat) := (cmS sg S ops).bind fun w => if vf = 0 then some (bT w.2.2 :: w.1, A, ops + w.2.1) else if w.2.2 = true then some (w.1, A, ops + w.2.1) else none
set_option maxHeartbeats 600000 in
theorem v_many (fu : Nat) (hfu : 1600 ≤ fu) (sg : List Int32 → List Int32 → Bool) (st e1 e2 e3 e4 e5 e6 e7 e8 : Nat → Int32) {z0 z th sz : Nat → Int32} (hE : sgE fu st e1 e2 e3 e4 e5 e6 e7 e8 z0 sg) (hz : zf z0 z) {S A : Stk} {ops : Nat} (h : rM z th sz S A ops) (hl : S.length + A.length ≤ 200) (hops : ops ≤ 201) (vf : Int32) (s1 s2 s3 s4 s5 s6 s7 s8 s9 s10 s11 s12 s13 s14 s15 s16 s17 s18 s19 s20 s21 s22 s23 s24 s25 mg : Nat → Int32) : ok (x_M_many fu st e1 e2 e3 e4 e5 e6 e7 e8 vf z s1 s2 s3 s4 s5 s6 s7 s8 s9 s10 s11 s12 s13 s14 s15 s16 s17 s18 s19 s20 s21 s22 s23 s24 s25 th sz mg) (op30 (mnS sg vf S A ops) z) := by
  unfold x_M_many
  have hT := h.2.2.2.1
  refine ok_bd1 (v_has fu z (n := 1) (by omega) (by decide) h.1.1) (fun v hv => ok_tf hv (fun q => ok_some ?_) (fun q => ?_))
  · have e : S = [] := List.eq_nil_of_length_eq_zero (by omega)
    subst e
    exact opQ_0 rfl (zf_r _) hT
  cases S with
  | nil => exact absurd q (by decide)
  | cons n S =>
    replace hl : S.length + 1 + A.length ≤ 200 := hl
    have h9 : z 9 = nI (S.length + 1) := h.1.1
    have k0 := h.2.1.1
    rw [Nat.zero_add] at k0
    have hS := h.2.1.2
    have e9 : nI (S.length + 1) - (1 : Int32) = nI S.length := nI_sb (b := 1) (by omega)
    rw [h9, e9]
    -- the ways that end with nothing
    have no1 : ¬ (isNu n = true ∧ 0 ≤ numL n ∧ numL n ≤ 20 ∧ ops + (numL n).toNat ≤ 201 ∧ (numL n).toNat + 1 ≤ S.length) → mnS sg vf (n :: S) A ops = none := fun hn => by
      have e : cmS sg (n :: S) ops = none := by
        show (if isNu n = true ∧ 0 ≤ numL n ∧ numL n ≤ 20 ∧ ops + (numL n).toNat ≤ 201 ∧ (numL n).toNat + 1 ≤ S.length then _ else none) = none
        rw [if_neg hn]
      unfold mnS
      rw [e]
      rfl
    refine ok_bnd (ok_bd1 (v_isNumber fu z th sz (by omega) k0) (fun v hv => ok_tf hv (fun qn => ok_some (opQ_0 (no1 fun e => qn e.1) (zf_r _) hT)) (fun qn => ?_)))
    refine ok_bnd (ok_bd1 (v_numberAt fu (by omega) z th sz (by omega) k0 qn) (fun v hv => ?_))
    by_cases c1 : numL n < 0
    · exact ok_t ((lg_lt' hv z64).mpr c1) (ok_some (opQ_0 (no1 fun e => by have := e.2.1; omega) (zf_r _) hT))
    refine ok_f (fun e => c1 ((lg_lt' hv z64).mp e)) ?_
    have l20 := lg_le' (y := (20 : Int64)) (b := 20) hv rfl
    by_cases c2 : ¬ numL n ≤ 20
    · exact ok_f (fun e => c2 (l20.mp e)) (ok_some (opQ_0 (no1 fun e => c2 e.2.2.1) (zf_r _) hT))
    replace c2 := Decidable.not_not.mp c2
    refine ok_t (l20.mpr c2) ?_
    obtain ⟨k, hk⟩ : ∃ k : Nat, numL n = k := ⟨(numL n).toNat, by omega⟩
    have ev : v = lN k := Int64.toInt_inj.mp (by rw [hv, hk, lN_I (by omega)])
    subst ev
    rw [iN_l, h.1.2.2]
    have e11 : (upd z 11 (nI (ops + k))) 11 = nI (ops + k) := pk_us
    have e119 : (upd z 11 (nI (ops + k))) 9 = nI (S.length + 1) := by rw [pk_un (by decide)]; exact h9
    refine ok_bn (nI_add ops k) (ok_bnd ?_)
    rw [e11, e119]
    have hz7 : zf z (upd z 11 (nI (ops + k))) := zf_11 _
    have kt : (numL n).toNat = k := by omega
    rw [kt] at no1
    by_cases c3 : 201 < ops + k
    · exact ok_t ((nI_ltI (a := 201) (by omega) (by omega)).mpr c3) (ok_some (opQ_0 (no1 fun e => by have := e.2.2.2.1; omega) hz7 hT))
    refine ok_f (fun e => c3 ((nI_ltI (a := 201) (by omega) (by omega)).mp e)) (ok_bnd (ok_bn (nI_add k 2) ?_))
    refine ok_bd1 (v_has fu (upd z 11 (nI (ops + k))) (n := k + 2) (d := S.length + 1) (by omega) (by omega) e119) (fun v hv => ok_tf hv (fun q => ok_some (opQ_0 (no1 fun e => by have := e.2.2.2.2; omega) hz7 hT)) (fun c4 => ?_))
    obtain ⟨at', hat⟩ : ∃ a, S.length = a + 1 + k := ⟨S.length - 1 - k, by omega⟩
    have eq2 : nI (S.length + 1) - (2 : Int32) = nI (at' + k) := by rw [show (2 : Int32) = nI 2 from rfl, nI_sb (by omega), hat]; congr 1; omega
    rw [eq2]
    have sc := stU_g (i := k) (by omega) hS
    rw [Nat.zero_add, show S.length - 1 - k = at' from by omega] at sc
    have no2 : ¬ (isNu (S.getD k []) = true ∧ 0 ≤ numL (S.getD k []) ∧ numL (S.getD k []) ≤ numL n ∧ k + 1 + (numL (S.getD k [])).toNat + 1 ≤ S.length) → mnS sg vf (n :: S) A ops = none := fun hn => by
      have e : cmS sg (n :: S) ops = none := by
        show (if isNu n = true ∧ 0 ≤ numL n ∧ numL n ≤ 20 ∧ ops + (numL n).toNat ≤ 201 ∧ (numL n).toNat + 1 ≤ S.length then (if isNu (S.getD (numL n).toNat []) = true ∧ 0 ≤ numL (S.getD (numL n).toNat []) ∧ numL (S.getD (numL n).toNat []) ≤ numL n ∧ (numL n).toNat + 1 + (numL (S.getD (numL n).toNat [])).toNat + 1 ≤ S.length then _ else none) else none) = none
        rw [kt, if_neg hn]
        split <;> rfl
      unfold mnS
      rw [e]
      rfl
    refine ok_bnd (ok_bnd (ok_bn (e' := nI at') (by rw [nI_sb (show k ≤ at' + k by omega), Nat.add_sub_cancel]) ?_))
    refine ok_bd1 (v_isNumber fu _ th sz (by omega) sc) (fun v hv => ok_tf hv (fun qn => ok_some (opQ_0 (no2 fun e => qn e.1) hz7 hT)) (fun qm => ?_))
    refine ok_bd1 (v_numberAt fu (by omega) _ th sz (by omega) sc qm) (fun v hv => ?_)
    by_cases d1 : numL (S.getD k []) < 0
    · exact ok_t ((lg_lt' hv z64).mpr d1) (ok_some (opQ_0 (no2 fun e => by have := e.2.1; omega) hz7 hT))
    refine ok_f (fun e => d1 ((lg_lt' hv z64).mp e)) ?_
    have lk := lg_gt' hv (lN_I (show k < 2 ^ 63 by omega))
    by_cases d2 : (k : Int) < numL (S.getD k [])
    · exact ok_t (lk.mpr d2) (ok_some (opQ_0 (no2 fun e => by have := e.2.2.1; omega) hz7 hT))
    refine ok_f (fun e => d2 (lk.mp e)) ?_
    obtain ⟨m, hm⟩ : ∃ m : Nat, numL (S.getD k []) = m := ⟨(numL (S.getD k [])).toNat, by omega⟩
    have ev : v = lN m := Int64.toInt_inj.mp (by rw [hv, hm, lN_I (by omega)])
    subst ev
    rw [iL (show at' < 2 ^ 31 by omega)]
    have ez : ((lN at' - lN m) - (1 : Int64)).toInt = (at' : Int) - m - 1 := by
      have := sub_I (sub_l (a := at') (b := m) (by omega) (by omega)) (y := (1 : Int64)) (b := 1) rfl (by omega)
      exact this
    refine ok_bnd (ok_bnd (ok_bnd ?_))
    have lz := lg_ge ez z64
    by_cases d3 : ¬ m + 1 ≤ at'
    · exact ok_f (fun e => d3 (by have := lz.mp e; omega)) (ok_some (opQ_0 (no2 fun e => by have := e.2.2.2; omega) hz7 hT))
    replace d3 := Decidable.not_not.mp d3
    refine ok_t (lz.mpr (by omega)) ?_
    rw [iN_l, show nI at' - (1 : Int32) = nI (at' - 1) from nI_sb (b := 1) (by omega)]
    refine ok_bnd (ok_bnd (ok_bnd ?_))
    have mt : (numL (S.getD k [])).toNat = m := by omega
    have eW : cmS sg (n :: S) ops = some (S.drop (k + 1 + m + 1), k, cml sg (S.take k) ((S.drop (k + 1)).take m)) := by
      show (if isNu n = true ∧ 0 ≤ numL n ∧ numL n ≤ 20 ∧ ops + (numL n).toNat ≤ 201 ∧ (numL n).toNat + 1 ≤ S.length then (if isNu (S.getD (numL n).toNat []) = true ∧ 0 ≤ numL (S.getD (numL n).toNat []) ∧ numL (S.getD (numL n).toNat []) ≤ numL n ∧ (numL n).toNat + 1 + (numL (S.getD (numL n).toNat [])).toNat + 1 ≤ S.length then some (S.drop ((numL n).toNat + 1 + (numL (S.getD (numL n).toNat [])).toNat + 1), (numL n).toNat, cml sg (S.take (numL n).toNat) ((S.drop ((numL n).toNat + 1)).take (numL (S.getD (numL n).toNat [])).toNat)) else none) else none) = _
      rw [kt, mt, if_pos ⟨qn, by omega, c2, by omega, by omega⟩, if_pos ⟨qm, by omega, by omega, by omega⟩]
    have W : mnS sg vf (n :: S) A ops = if vf = 0 then some (bT (cml sg (S.take k) ((S.drop (k + 1)).take m)) :: S.drop (k + 1 + m + 1), A, ops + k) else if cml sg (S.take k) ((S.drop (k + 1)).take m) = true then some (S.drop (k + 1 + m + 1), A, ops + k) else none := by
      unfold mnS
      rw [eW]
      rfl
    rw [W]
    -- the slots of keys and signatures
    have lT : (S.take k).length = k := by rw [List.length_take]; omega
    have lD : ((S.drop (k + 1)).take m).length = m := by rw [List.length_take, List.length_drop]; omega
    have lR : (S.drop (k + 1 + m + 1)).length = at' - m - 1 := by rw [List.length_drop]; omega
    have sK : stU th sz (at' + 1) (S.take k) := by
      have := hS
      rw [← List.take_append_drop k S, stU_ap, List.length_drop] at this
      rw [show at' + 1 = 0 + (S.length - k) from by omega]
      exact this.1
    have sG : stU th sz (at' - m) ((S.drop (k + 1)).take m) := by
      have t1 : stU th sz 0 (S.drop (k + 1)) := by
        have := hS
        rw [← List.take_append_drop (k + 1) S, stU_ap] at this
        exact this.2
      rw [← List.take_append_drop m (S.drop (k + 1)), stU_ap, List.length_drop, List.length_drop] at t1
      rw [show at' - m = 0 + (S.length - (k + 1) - m) from by omega]
      exact t1.1
    have sR : stU th sz 0 (S.drop (k + 1 + m + 1)) := by
      have := hS
      rw [← List.take_append_drop (k + 1 + m + 1) S, stU_ap] at this
      exact this.2
    generalize hc : cml sg (S.take k) ((S.drop (k + 1)).take m) = c at *
    have L := l_mn169 fu sg st e1 e2 e3 e4 e5 e6 e7 e8 hE hT (x1 := vf) (x6 := lN m) (at' := at') (m := m) (by omega) d3 (op30 (if vf = 0 then some (bT c :: S.drop (k + 1 + m + 1), A, ops + k) else if c = true then some (S.drop (k + 1 + m + 1), A, ops + k) else none) z) (S.take k) ((S.drop (k + 1)).take m) fu (upd z 11 (nI (ops + k))) s1 s2 s3 s4 s5 s6 s7 s8 s9 s10 s11 s12 s13 s14 s15 s16 s17 s18 s19 s20 s21 s22 s23 s24 s25 mg (zf_t hz hz7) (by omega) (by omega) (by omega) (by omega) sK sG (fun x11 z' t1 t2 t3 t4 t5 t6 t7 t8 t9 t10 t11 t12 t13 t14 t15 t16 t17 t18 t19 t20 t21 t22 t23 t24 t25 mg' hx hz8 => ?_)
    · rw [lT, lD, show at' - m + m - 1 = at' - 1 from by omega] at L
      exact L
    · rw [hc] at hx
      unfold xb_M_many_215
      rw [iN_l, nI_sb (show m ≤ at' by omega)]
      refine ok_bnd (ok_bn (e' := nI (at' - m - 1)) (nI_sb (b := 1) (by omega)) (ok_bnd ?_))
      have hzz : zf z z' := zf_t hz7 (zf_8 hz8)
      have hR : rM (upd z' 9 (nI (at' - m - 1))) th sz (S.drop (k + 1 + m + 1)) A (ops + k) := by
        refine ⟨⟨by rw [pk_us, lR], ?_, ?_⟩, sR, h.2.2.1, hT, by rw [lR]; omega, by omega⟩
        · rw [pk_un (by decide), hz8 10 (by decide), pk_un (by decide)]
          exact h.1.2.1
        · rw [pk_un (by decide), hz8 11 (by decide), pk_us]
      by_cases q : vf = 0
      · refine ok_t q ?_
        rw [if_pos q]
        refine (ok_bd3 (v_pushT fu (by omega) hx (d := at' - m - 1) (by omega) pk_us hT) (fun g1 g2 g3 w => ok_some ?_))
        obtain ⟨w1, w2⟩ := w
        replace w1 : g1 = upd (upd z' 9 (nI (at' - m - 1))) 9 (nI (at' - m - 1 + 1)) := w1
        replace w2 : wS th sz (at' - m - 1) (bT c) g2 g3 := w2
        subst w1
        refine opQ_1 rfl (zf_t hzz (zf_t (zf_9 _) (zf_9 _))) (rM_w (z' := upd (upd z' 9 (nI (at' - m - 1))) 9 (nI (at' - m - 1 + 1))) hR sR (by rw [lR]; omega) (by rw [lR]; exact w2) (by rw [lR]; exact pk_us) (pk_un (by decide)) (pk_un (by decide)))
      · refine ok_f q ?_
        rw [if_neg q]
        exact (ok_gd (tf_isb hx) (ok_some (opQ_tf hx rfl (zf_t hzz (zf_9 _)) hR)))
