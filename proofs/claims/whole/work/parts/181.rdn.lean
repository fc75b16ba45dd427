-- the reference's machine: pick, equal, hashes, signatures
abbrev T28 : Type := Int32 × (Nat → Int32) × (Nat → Int32) × (Nat → Int32) × (Nat → Int32) × (Nat → Int32) × (Nat → Int32) × (Nat → Int32) × (Nat → Int32) × (Nat → Int32) × (Nat → Int32) × (Nat → Int32) × (Nat → Int32) × (Nat → Int32) × (Nat → Int32) × (Nat → Int32) × (Nat → Int32) × (Nat → Int32) × (Nat → Int32) × (Nat → Int32) × (Nat → Int32) × (Nat → Int32) × (Nat → Int32) × (Nat → Int32) × (Nat → Int32) × (Nat → Int32) × (Nat → Int32) × (Nat → Int32)
def sg28 (b : Bool) (z0 : Nat → Int32) (x : T28) : Prop := match x with
  | (v, z, _, _, _, _, _, _, _, _, _, _, _, _, _, _, _, _, _, _, _, _, _, _, _, _, _, _) => tf (b = true) v ∧ ∀ j, j ≠ 8 → z j = z0 j
/-- what is a signature's check worth, in this setting -/
def sgE (fu : Nat) (st e1 e2 e3 e4 e5 e6 e7 e8 : Nat → Int32) (z0 : Nat → Int32) (sg : List Int32 → List Int32 → Bool) : Prop := ∀ (th sz : Nat → Int32) (a b : Nat) (K G : List Int32) (z : Nat → Int32), ftB th → zf z0 z → a < 408 → b < 408 → sl th sz a K → sl th sz b G → ∀ (s1 s2 s3 s4 s5 s6 s7 s8 s9 s10 s11 s12 s13 s14 s15 s16 s17 s18 s19 s20 s21 s22 s23 s24 s25 mg : Nat → Int32), ok (x_M_isSig fu st e1 e2 e3 e4 e5 e6 e7 th sz e8 (nI a) (nI b) z s1 s2 s3 s4 s5 s6 s7 s8 s9 s10 s11 s12 s13 s14 s15 s16 s17 s18 s19 s20 s21 s22 s23 s24 s25 mg) (sg28 (sg K G) z)
set_option maxHeartbeats 400000 in
theorem rM_8 {z z' th sz : Nat → Int32} {S A : Stk} {ops : Nat} (h : rM z th sz S A ops) (hz : ∀ j, j ≠ 8 → z' j = z j) : rM z' th sz S A ops := ⟨⟨by rw [hz 9 (by decide)]; exact h.1.1, by rw [hz 10 (by decide)]; exact h.1.2.1, by rw [hz 11 (by decide)]; exact h.1.2.2⟩, h.2⟩
set_option maxHeartbeats 400000 in
theorem zf_8 {z z' : Nat → Int32} (hz : ∀ j, j ≠ 8 → z' j = z j) : zf z z' := fun j h _ _ _ => hz j h
set_option maxHeartbeats 400000 in
theorem l_d18 (fu : Nat) (hfu : 1600 ≤ fu) (sg : List Int32 → List Int32 → Bool) (st e1 e2 e3 e4 e5 e6 e7 e8 : Nat → Int32) {z th sz : Nat → Int32} {S A : Stk} {ops o : Nat} (h : rM z th sz S A ops) (hl : S.length + A.length ≤ 200) (ho : o = 79 ∨ 81 ≤ o ∧ o ≤ 96) (s1 s2 s3 s4 s5 s6 s7 s8 s9 s10 s11 s12 s13 s14 s15 s16 s17 s18 s19 s20 s21 s22 s23 s24 s25 mg : Nat → Int32) : ok (xb_M_isDone_18 fu st e1 e2 e3 e4 e5 e6 e7 e8 (nI o) z s1 s2 s3 s4 s5 s6 s7 s8 s9 s10 s11 s12 s13 s14 s15 s16 s17 s18 s19 s20 s21 s22 s23 s24 s25 th sz mg) (op30 (opS sg hsF o S A ops) z) := by
  unfold xb_M_isDone_18
  have e : (nI o - (80 : Int32)).toInt64.toInt = (o : Int) - 80 := by
    have cs : o = 79 ∨ ∃ k, k < 16 ∧ o = 81 + k := by
      rcases ho with e | e
      · exact Or.inl e
      · exact Or.inr ⟨o - 81, by omega, by omega⟩
    rcases cs with rfl | ⟨k, hk, rfl⟩
    · decide
    · rw [show (80 : Int32) = nI 80 from rfl, nI_sb (by omega), iL (by omega), lN_I (by omega)]
      omega
  refine ok_bnd (ok_bd3 (v_pushN fu (by omega) e (by omega) (d := S.length) (by omega) h.1.1 h.2.2.2.1) (fun f1 f2 f3 w => ok_some ?_))
  obtain ⟨w1, w2⟩ := w
  replace w1 : f1 = upd z 9 (nI (S.length + 1)) := w1
  subst w1
  refine opQ_1 ?_ (zf_9 _) (rM_w (z' := upd z 9 (nI (S.length + 1))) h h.2.1 (by omega) w2 pk_us (pk_un (by decide)) (pk_un (by decide)))
  unfold opS
  rw [if_pos ho]
set_option maxHeartbeats 400000 in
theorem split_g (S : Stk) {k : Nat} (hk : k < S.length) : S = S.take k ++ S.getD k [] :: S.drop (k + 1) := by
  have e : S.drop k = S.getD k [] :: S.drop (k + 1) := by rw [List.drop_eq_getElem_cons hk, gD_e S [] hk]
  rw [← e, List.take_append_drop]
def pkS (o : Nat) (n : List Int32) (S A : Stk) (ops : Nat) : Option (Stk × Stk × Nat) := if 1 ≤ S.length ∧ isNu n = true ∧ 0 ≤ numL n ∧ numL n < (S.length : Int) then some (S.getD (numL n).toNat [] :: (if o = 121 then S else S.eraseIdx (numL n).toNat), A, ops) else none
set_option maxHeartbeats 400000 in
theorem opS_pk (sg : List Int32 → List Int32 → Bool) (hs : Nat → List Int32 → List Int32) {o : Nat} (ho : o = 121 ∨ o = 122) (S A : Stk) (ops : Nat) : opS sg hs o S A ops = (match S with | n :: S => pkS o n S A ops | _ => none) := by
  rcases ho with rfl | rfl <;> rfl
set_option maxHeartbeats 400000 in
theorem l_d651 (fu : Nat) (hfu : 1600 ≤ fu) (sg : List Int32 → List Int32 → Bool) (st e1 e2 e3 e4 e5 e6 e7 e8 : Nat → Int32) {z th sz : Nat → Int32} {S A : Stk} {ops o : Nat} (h : rM z th sz S A ops) (hl : S.length + A.length ≤ 200) (ho : o = 121 ∨ o = 122) (s1 s2 s3 s4 s5 s6 s7 s8 s9 s10 s11 s12 s13 s14 s15 s16 s17 s18 s19 s20 s21 s22 s23 s24 s25 mg : Nat → Int32) : ok (xb_M_isDone_651 fu st e1 e2 e3 e4 e5 e6 e7 e8 (nI o) z s1 s2 s3 s4 s5 s6 s7 s8 s9 s10 s11 s12 s13 s14 s15 s16 s17 s18 s19 s20 s21 s22 s23 s24 s25 th sz mg) (op30 (opS sg hsF o S A ops) z) := by
  unfold xb_M_isDone_651
  rw [opS_pk sg hsF ho]
  refine ok_bd1 (v_has fu z (n := 2) (by omega) (by decide) h.1.1) (fun v hv => ok_tf hv (fun q => ok_some ?_) (fun q => ?_))
  · match S, q, h with
    | [], q, h => exact opQ_0 rfl (zf_r _) h.2.2.2.1
    | [x], q, h =>
      refine opQ_0 ?_ (zf_r _) h.2.2.2.1
      show pkS o x [] A ops = none
      unfold pkS
      rw [if_neg (fun e => absurd e.1 (by decide))]
    | x :: y :: S, q, h => exact absurd (show 2 ≤ S.length + 1 + 1 by omega) q
  match S, q, h, hl with
  | [], q, h, hl => exact absurd q (by decide)
  | n :: S, q, h, hl =>
    replace q : 2 ≤ S.length + 1 := q
    replace hl : S.length + 1 + A.length ≤ 200 := hl
    show ok _ (op30 (pkS o n S A ops) z)
    have h9 : z 9 = nI (S.length + 1) := h.1.1
    have s0 := h.2.1.1
    rw [Nat.zero_add] at s0
    have hS := h.2.1.2
    have e9 : nI (S.length + 1) - (1 : Int32) = nI S.length := nI_sb (b := 1) (by omega)
    rw [h9, e9]
    refine ok_bnd (ok_bd1 (v_isNumber fu z th sz (by omega) s0) (fun v hv => ok_tf hv (fun qn => ok_some (opQ_0 ?_ (zf_r _) h.2.2.2.1)) (fun qn => ?_)))
    · unfold pkS
      rw [if_neg (fun e => qn e.2.1)]
    refine ok_bnd (ok_bd1 (v_numberAt fu (by omega) z th sz (by omega) s0 qn) (fun v hv => ok_bnd (ok_bnd ?_)))
    have hR : rM (upd z 9 (nI S.length)) th sz S A ops := rM_d (z' := upd z 9 (nI S.length)) h hS (by omega) pk_us (pk_un (by decide)) (pk_un (by decide))
    have hb := numL_b (L := n) (of_decide_eq_true qn)
    by_cases c1 : numL n < 0
    · refine ok_t ((lg_lt' hv z64).mpr c1) (ok_some (opQ_0 ?_ (zf_9 _) h.2.2.2.1))
      unfold pkS
      rw [if_neg (fun e => by have := e.2.2.1; omega)]
    refine ok_f (fun e => c1 ((lg_lt' hv z64).mp e)) ?_
    rw [show (upd z 9 (nI S.length)) 9 = nI S.length from pk_us, iL (show S.length < 2 ^ 31 by omega)]
    have c2 := lg_lt' (b := (S.length : Int)) hv (lN_I (show S.length < 2 ^ 63 by omega))
    by_cases c3 : numL n < (S.length : Int)
    · obtain ⟨k, hk⟩ : ∃ k : Nat, numL n = k := ⟨(numL n).toNat, by omega⟩
      have ev : v = lN k := Int64.toInt_inj.mp (by rw [hv, hk, lN_I (by omega)])
      have eW : pkS o n S A ops = some (S.getD k [] :: (if o = 121 then S else S.eraseIdx k), A, ops) := by
        unfold pkS
        rw [if_pos ⟨by omega, qn, by omega, c3⟩, hk]
        rfl
      rw [eW]
      subst ev
      rw [iN_l]
      refine ok_t (c2.mpr c3) ?_
      by_cases c4 : o = 121
      · refine ok_t (by rw [c4]; rfl) (ok_bnd (ok_bn (nI_1 k) (ok_bd4 (v_again fu (k := k + 1) hR (by omega) (by omega) (by omega)) (fun v f1 f2 f3 hq => ok_gd (opQ_isb hq) (ok_some ?_)))))
        replace hq : opQ (if k + 1 ≤ S.length then some (S.getD (k + 1 - 1) [] :: S, A, ops) else none) (upd z 9 (nI S.length)) v f1 f2 f3 := hq
        rw [if_pos (by omega), Nat.add_sub_cancel] at hq
        rw [if_pos c4]
        exact ⟨zf_t (zf_9 _) hq.1, hq.2⟩
      · have hsp := split_g S (k := k) (by omega)
        refine ok_f (fun e => c4 ((nI_eq (a := o) (b := 121) (by omega) (by decide)).mp e)) (ok_bnd (ok_bn (nI_1 k) ?_))
        have hR' : rM (upd z 9 (nI S.length)) th sz (S.take k ++ S.getD k [] :: S.drop (k + 1)) A ops := hsp ▸ hR
        have hlen : (S.take k).length = k := by rw [List.length_take]; omega
        have T := v_takes fu (by omega) (a2 := (1 : Int32)) hR'
        rw [hlen] at T
        refine ok_bd4 T (fun v f1 f2 f3 hq => ?_)
        obtain ⟨g1, g2, g3⟩ := hq
        replace g1 : v = 1 := g1
        replace g3 : rM f1 f2 f3 (if (1 : Int32) = 0 then S.take k ++ S.drop (k + 1) else S.getD k [] :: (S.take k ++ S.drop (k + 1))) A ops := g3
        rw [if_neg (by decide)] at g3
        subst g1
        refine ok_gd (by decide) (ok_some (opQ_1 ?_ (zf_t (zf_9 _) g2) g3))
        rw [if_neg c4, List.eraseIdx_eq_take_drop_succ]
    · refine ok_f (fun e => c3 (c2.mp e)) (ok_some (opQ_0 ?_ (zf_9 _) h.2.2.2.1))
      unfold pkS
      rw [if_neg (fun e => c3 e.2.2.2)]
set_option maxHeartbeats 400000 in
theorem l_d880 (fu : Nat) (hfu : 1600 ≤ fu) (sg : List Int32 → List Int32 → Bool) (st e1 e2 e3 e4 e5 e6 e7 e8 : Nat → Int32) {z th sz : Nat → Int32} {S A : Stk} {ops o : Nat} (h : rM z th sz S A ops) (hl : S.length + A.length ≤ 200) (ho : o = 135 ∨ o = 136) (s1 s2 s3 s4 s5 s6 s7 s8 s9 s10 s11 s12 s13 s14 s15 s16 s17 s18 s19 s20 s21 s22 s23 s24 s25 mg : Nat → Int32) : ok (xb_M_isDone_880 fu st e1 e2 e3 e4 e5 e6 e7 e8 (nI o) z s1 s2 s3 s4 s5 s6 s7 s8 s9 s10 s11 s12 s13 s14 s15 s16 s17 s18 s19 s20 s21 s22 s23 s24 s25 th sz mg) (op30 (opS sg hsF o S A ops) z) := by
  unfold xb_M_isDone_880
  refine ok_bd1 (v_has fu z (n := 2) (by omega) (by decide) h.1.1) (fun v hv => ok_tf hv (fun q => ok_some ?_) (fun q => ?_))
  · match S, q, h with
    | [], q, h => rcases ho with rfl | rfl <;> exact opQ_0 rfl (zf_r _) h.2.2.2.1
    | [x], q, h => rcases ho with rfl | rfl <;> exact opQ_0 rfl (zf_r _) h.2.2.2.1
    | x :: y :: S, q, h => exact absurd (show 2 ≤ S.length + 1 + 1 by omega) q
  match S, q, h, hl with
  | [], q, h, hl => exact absurd q (by decide)
  | [x], q, h, hl => exact absurd (show 2 ≤ 1 from q) (by decide)
  | x :: y :: S, q, h, hl =>
    replace hl : S.length + 1 + 1 + A.length ≤ 200 := hl
    have h9 : z 9 = nI (S.length + 2) := h.1.1
    have s0 := h.2.1.1
    have s1 := h.2.1.2.1
    rw [Nat.zero_add] at s0 s1
    replace s0 : sl th sz (S.length + 1) x := s0
    have hS := h.2.1.2.2
    have e9 : nI (S.length + 2) - (1 : Int32) = nI (S.length + 1) := nI_sb (b := 1) (by omega)
    have e92 : nI (S.length + 2) - (2 : Int32) = nI S.length := nI_sb (b := 2) (by omega)
    rw [h9, e9, e92]
    have hR : rM (upd z 9 (nI S.length)) th sz S A ops := rM_d (z' := upd z 9 (nI S.length)) h hS (by omega) pk_us (pk_un (by decide)) (pk_un (by decide))
    refine ok_bnd (ok_bnd (ok_bd1 (v_isSame fu (by omega) z th sz (by omega) (by omega) s0 s1) (fun v hv => ok_bnd (ok_bnd ?_))))
    have hv' : tf ((decide (x = y)) = true) v := tf_c decide_eq_true_iff.symm hv
    rcases ho with rfl | rfl
    · refine ok_f (by decide) (ok_bd3 (v_pushT fu (by omega) hv' (d := S.length) (by omega) pk_us h.2.2.2.1) (fun f1 f2 f3 w => ok_some ?_))
      obtain ⟨w1, w2⟩ := w
      replace w1 : f1 = upd (upd z 9 (nI S.length)) 9 (nI (S.length + 1)) := w1
      subst w1
      exact opQ_1 rfl (zf_t (zf_9 _) (zf_9 _)) (rM_w (z' := upd (upd z 9 (nI S.length)) 9 (nI (S.length + 1))) hR hS (by omega) w2 pk_us (pk_un (by decide)) (pk_un (by decide)))
    · refine ok_t (by decide) (ok_gd (tf_isb hv) (ok_some (opQ_tf hv' ?_ (zf_9 _) hR)))
      show (if x = y then some (S, A, ops) else none) = _
      by_cases e : x = y
      · rw [if_pos e, if_pos (decide_eq_true e)]
      · rw [if_neg e, if_neg (fun w => e (of_decide_eq_true w))]
set_option maxHeartbeats 400000 in
theorem l_d933 (fu : Nat) (hfu : 1600 ≤ fu) (sg : List Int32 → List Int32 → Bool) (st e1 e2 e3 e4 e5 e6 e7 e8 : Nat → Int32) {z th sz : Nat → Int32} {S A : Stk} {ops o : Nat} (h : rM z th sz S A ops) (hl : S.length + A.length ≤ 200) (ho : o = 166 ∨ o = 168 ∨ o = 169 ∨ o = 170) (s1 s2 s3 s4 s5 s6 s7 s8 s9 s10 s11 s12 s13 s14 s15 s16 s17 s18 s19 s20 s21 s22 s23 s24 s25 mg : Nat → Int32) : ok (xb_M_isDone_933 fu st e1 e2 e3 e4 e5 e6 e7 e8 (nI o) z s1 s2 s3 s4 s5 s6 s7 s8 s9 s10 s11 s12 s13 s14 s15 s16 s17 s18 s19 s20 s21 s22 s23 s24 s25 th sz mg) (op30 (opS sg hsF o S A ops) z) := by
  unfold xb_M_isDone_933
  have e : opS sg hsF o S A ops = hdS o S A ops := by rcases ho with rfl | rfl | rfl | rfl <;> rfl
  rw [e]
  refine ok_bd8 (v_hashed fu hfu h ho s1 s2 s3 s4) (fun v f1 f2 f3 f4 f5 f6 f7 hq => ?_)
  replace hq : opQ (hdS o S A ops) z v f1 f6 f7 := hq
  exact ok_gd (opQ_isb hq) (ok_some hq)
set_option maxHeartbeats 400000 in
theorem l_d939 (fu : Nat) (hfu : 1600 ≤ fu) (sg : List Int32 → List Int32 → Bool) (st e1 e2 e3 e4 e5 e6 e7 e8 : Nat → Int32) {z0 z th sz : Nat → Int32} (hE : sgE fu st e1 e2 e3 e4 e5 e6 e7 e8 z0 sg) (hz : zf z0 z) {S A : Stk} {ops o : Nat} (h : rM z th sz S A ops) (hl : S.length + A.length ≤ 200) (ho : o = 172 ∨ o = 173) (s1 s2 s3 s4 s5 s6 s7 s8 s9 s10 s11 s12 s13 s14 s15 s16 s17 s18 s19 s20 s21 s22 s23 s24 s25 mg : Nat → Int32) : ok (xb_M_isDone_939 fu st e1 e2 e3 e4 e5 e6 e7 e8 (nI o) z s1 s2 s3 s4 s5 s6 s7 s8 s9 s10 s11 s12 s13 s14 s15 s16 s17 s18 s19 s20 s21 s22 s23 s24 s25 th sz mg) (op30 (opS sg hsF o S A ops) z) := by
  unfold xb_M_isDone_939
  refine ok_bd1 (v_has fu z (n := 2) (by omega) (by decide) h.1.1) (fun v hv => ok_tf hv (fun q => ok_some ?_) (fun q => ?_))
  · match S, q, h with
    | [], q, h => rcases ho with rfl | rfl <;> exact opQ_0 rfl (zf_r _) h.2.2.2.1
    | [x], q, h => rcases ho with rfl | rfl <;> exact opQ_0 rfl (zf_r _) h.2.2.2.1
    | x :: y :: S, q, h => exact absurd (show 2 ≤ S.length + 1 + 1 by omega) q
  match S, q, h, hl with
  | [], q, h, hl => exact absurd q (by decide)
  | [x], q, h, hl => exact absurd (show 2 ≤ 1 from q) (by decide)
  | x :: y :: S, q, h, hl =>
    replace hl : S.length + 1 + 1 + A.length ≤ 200 := hl
    have h9 : z 9 = nI (S.length + 2) := h.1.1
    have k0 := h.2.1.1
    have k1 := h.2.1.2.1
    rw [Nat.zero_add] at k0 k1
    replace k0 : sl th sz (S.length + 1) x := k0
    have hS := h.2.1.2.2
    have e9 : nI (S.length + 2) - (1 : Int32) = nI (S.length + 1) := nI_sb (b := 1) (by omega)
    have e92 : nI (S.length + 2) - (2 : Int32) = nI S.length := nI_sb (b := 2) (by omega)
    rw [h9, e9, e92]
    refine ok_bnd (ok_bnd (ok_bd28 (hE th sz _ _ x y z h.2.2.2.1 hz (by omega) (by omega) k0 k1 s1 s2 s3 s4 s5 s6 s7 s8 s9 s10 s11 s12 s13 s14 s15 s16 s17 s18 s19 s20 s21 s22 s23 s24 s25 mg) (fun v f1 f2 f3 f4 f5 f6 f7 f8 f9 f10 f11 f12 f13 f14 f15 f16 f17 f18 f19 f20 f21 f22 f23 f24 f25 f26 f27 hq => ?_)))
    obtain ⟨hv, hz8⟩ := hq
    replace hz8 : ∀ j, j ≠ 8 → f1 j = z j := hz8
    replace hv : tf (sg x y = true) v := hv
    have h' := rM_8 h hz8
    rw [show f1 9 = nI (S.length + 2) from h'.1.1, e92]
    have hR : rM (upd f1 9 (nI S.length)) th sz S A ops := rM_d (z' := upd f1 9 (nI S.length)) h' hS (by omega) pk_us (pk_un (by decide)) (pk_un (by decide))
    refine ok_bnd (ok_bnd ?_)
    rcases ho with rfl | rfl
    · refine ok_f (by decide) (ok_bd3 (v_pushT fu (by omega) hv (d := S.length) (by omega) pk_us h.2.2.2.1) (fun g1 g2 g3 w => ok_some ?_))
      obtain ⟨w1, w2⟩ := w
      replace w1 : g1 = upd (upd f1 9 (nI S.length)) 9 (nI (S.length + 1)) := w1
      subst w1
      exact opQ_1 rfl (zf_t (zf_8 hz8) (zf_t (zf_9 _) (zf_9 _))) (rM_w (z' := upd (upd f1 9 (nI S.length)) 9 (nI (S.length + 1))) hR hS (by omega) w2 pk_us (pk_un (by decide)) (pk_un (by decide)))
    · exact ok_t (by decide) (ok_gd (tf_isb hv) (ok_some (opQ_tf hv rfl (zf_t (zf_8 hz8) (zf_9 _)) hR)))
