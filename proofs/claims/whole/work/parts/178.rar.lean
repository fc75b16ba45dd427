-- the reference's machine: arithmetic, all of it; moves
set_option maxHeartbeats 400000 in
theorem arS_a {o : Nat} (ho : o ≤ 146) (S A : Stk) (ops : Nat) : arS o S A ops = (match S with | x :: S => if isNu x then (ar1 o (numL x)).map fun w => (w :: S, A, ops) else none | _ => none) := by
  unfold arS
  rw [if_pos ho]
  rfl
set_option maxHeartbeats 400000 in
theorem arS_b {o : Nat} (ho : ¬ o ≤ 146) (ho' : o ≤ 164) (S A : Stk) (ops : Nat) : arS o S A ops = (match S with | y :: x :: S => if isNu x && isNu y then (ar2 o (numL x) (numL y)).map fun w => (w ++ S, A, ops) else none | _ => none) := by
  unfold arS
  rw [if_neg ho, if_pos ho']
  rfl
set_option maxHeartbeats 400000 in
theorem arS_c (S A : Stk) (ops : Nat) : arS 165 S A ops = (match S with | c :: b :: a :: S => if isNu a && isNu b && isNu c then some (bT (decide (numL b ≤ numL a ∧ numL a < numL c)) :: S, A, ops) else none | _ => none) := by
  unfold arS
  rw [if_neg (by decide), if_neg (by decide)]
  rfl
set_option maxHeartbeats 400000 in
theorem op4_0 {W : Option (Stk × Stk × Nat)} (hW : W = none) {z0 z th sz : Nat → Int32} {S A : Stk} {ops : Nat} (h : rM z th sz S A ops) (hz : zf z0 z) : op4 W z0 (0, z, th, sz) := ⟨hz, h.2.2.2.1, Or.inl ⟨hW, rfl⟩⟩
set_option maxHeartbeats 400000 in
theorem l_ar52a (fu : Nat) (hfu : 300 ≤ fu) {z th sz : Nat → Int32} {S A : Stk} {ops o : Nat} (h : rM z th sz S A ops) (ho : 139 ≤ o ∧ o ≤ 146 ∧ o ≠ 141 ∧ o ≠ 142) : ok (xb_M_isArithmetic_52 fu (nI o) (nI 1) z th sz) (op4 (arS o S A ops) z) := by
  unfold xb_M_isArithmetic_52
  have hl := h.2.2.2.2.1
  have e0 := arS_a (o := o) ho.2.1 S A ops
  refine ok_bd1 (v_has fu z (n := 1) (by omega) (by decide) h.1.1) (fun v hv => ok_tf hv (fun q => ok_some (op4_0 ?_ h (zf_r _))) (fun q => ?_))
  · have : S = [] := List.eq_nil_of_length_eq_zero (by omega)
    rw [e0, this]
  · cases S with
    | nil => exact absurd q (by decide)
    | cons x S =>
      replace hl : S.length + 1 + A.length ≤ 202 := hl
      have h9 : z 9 = nI (S.length + 1) := h.1.1
      have s0 := h.2.1.1
      rw [Nat.zero_add] at s0
      obtain ⟨f, hf⟩ : ∃ f, fu = f + 1 + 1 := ⟨fu - 2, by omega⟩
      rw [show x_M_isArithmetic_64 fu fu = x_M_isArithmetic_64 fu (f + 1 + 1) from by rw [← hf]]
      show ok (xb_M_isArithmetic_64 fu (x_M_isArithmetic_64 fu (f + 1)) (nI o) (nI 1) (nI 1) z th sz) _
      unfold xb_M_isArithmetic_64
      rw [h9, nI_sb (by omega), Nat.add_sub_cancel]
      refine ok_f (by decide) (ok_bnd (ok_bd1 (v_isNumber fu z th sz (by omega) s0) (fun v hv => ok_tf hv (fun q => ok_some (op4_0 ?_ h (zf_r _))) (fun q => ok_bn (nI_1 1) ?_))))
      · rw [e0]
        show (if isNu x = true then _ else none) = none
        rw [if_neg q]
      · show ok (xb_M_isArithmetic_64 fu (x_M_isArithmetic_64 fu f) (nI o) (nI 1) (nI 2) z th sz) _
        unfold xb_M_isArithmetic_64
        rw [h9, nI_sb (show 1 ≤ S.length + 1 by omega), Nat.add_sub_cancel]
        refine ok_t (by decide) (ok_bnd (ok_bd1 (v_numberAt fu hfu z th sz (by omega) s0 q) (fun v hv => ok_t (by decide) ?_)))
        unfold xb_M_isArithmetic_122
        exact ok_t (by decide) (l_ar143a fu (by omega) h q ho hv)
set_option maxHeartbeats 400000 in
theorem l_ar52b (fu : Nat) (hfu : 300 ≤ fu) {z th sz : Nat → Int32} {S A : Stk} {ops o : Nat} (h : rM z th sz S A ops) (ho : 147 ≤ o ∧ o ≤ 164 ∧ (o ≤ 148 ∨ 154 ≤ o)) : ok (xb_M_isArithmetic_52 fu (nI o) (nI 2) z th sz) (op4 (arS o S A ops) z) := by
  unfold xb_M_isArithmetic_52
  have hl := h.2.2.2.2.1
  have e0 := arS_b (o := o) (by omega) ho.2.1 S A ops
  refine ok_bd1 (v_has fu z (n := 2) (by omega) (by decide) h.1.1) (fun v hv => ok_tf hv (fun q => ok_some (op4_0 ?_ h (zf_r _))) (fun q => ?_))
  · rw [e0]
    match S, q with
    | [], _ => rfl
    | [x], _ => rfl
    | y :: x :: S, q => exact absurd (show 2 ≤ S.length + 1 + 1 by omega) q
  · match S, q, h, hl, e0 with
    | [], q, _, _, _ => exact absurd q (by decide)
    | [x], q, _, _, _ => exact absurd (show 2 ≤ 1 from q) (by decide)
    | y :: x :: S, q, h, hl, e0 =>
      replace hl : S.length + 1 + 1 + A.length ≤ 202 := hl
      have h9 : z 9 = nI (S.length + 2) := h.1.1
      have s0 := h.2.1.1
      have s1 := h.2.1.2.1
      rw [Nat.zero_add] at s0 s1
      replace s0 : sl th sz (S.length + 1) y := s0
      obtain ⟨f, hf⟩ : ∃ f, fu = f + 1 + 1 + 1 := ⟨fu - 3, by omega⟩
      rw [show x_M_isArithmetic_64 fu fu = x_M_isArithmetic_64 fu (f + 1 + 1 + 1) from by rw [← hf]]
      show ok (xb_M_isArithmetic_64 fu (x_M_isArithmetic_64 fu (f + 1 + 1)) (nI o) (nI 2) (nI 1) z th sz) _
      unfold xb_M_isArithmetic_64
      rw [h9, nI_sb (show 1 ≤ S.length + 2 by omega), show S.length + 2 - 1 = S.length + 1 from rfl]
      refine ok_f (by decide) (ok_bnd (ok_bd1 (v_isNumber fu z th sz (by omega) s0) (fun v hv => ok_tf hv (fun q => ok_some (op4_0 ?_ h (zf_r _))) (fun qy => ok_bn (nI_1 1) ?_))))
      · rw [e0]
        show (if (isNu x && isNu y) = true then _ else none) = none
        rw [if_neg (fun e => q (Bool.and_eq_true _ _ ▸ e).2)]
      · show ok (xb_M_isArithmetic_64 fu (x_M_isArithmetic_64 fu (f + 1)) (nI o) (nI 2) (nI 2) z th sz) _
        unfold xb_M_isArithmetic_64
        rw [h9, nI_sb (show 2 ≤ S.length + 2 by omega), show S.length + 2 - 2 = S.length from rfl]
        refine ok_f (by decide) (ok_bnd (ok_bd1 (v_isNumber fu z th sz (by omega) s1) (fun v hv => ok_tf hv (fun q => ok_some (op4_0 ?_ h (zf_r _))) (fun qx => ok_bn (nI_1 2) ?_))))
        · rw [e0]
          show (if (isNu x && isNu y) = true then _ else none) = none
          rw [if_neg (fun e => q (Bool.and_eq_true _ _ ▸ e).1)]
        · show ok (xb_M_isArithmetic_64 fu (x_M_isArithmetic_64 fu f) (nI o) (nI 2) (nI 3) z th sz) _
          unfold xb_M_isArithmetic_64
          rw [h9, nI_sb (show 2 ≤ S.length + 2 by omega), show S.length + 2 - 2 = S.length from rfl]
          refine ok_t (by decide) (ok_bnd (ok_bd1 (v_numberAt fu hfu z th sz (by omega) s1 qx) (fun v hv => ok_f (by decide) (ok_bnd (ok_bn (nI_1 _) (ok_bd1 (v_numberAt fu hfu z th sz (by omega) s0 qy) (fun v' hv' => ?_)))))))
          unfold xb_M_isArithmetic_122
          exact ok_t (by decide) (l_ar143b fu (by omega) h qx qy ho hv hv')
set_option maxHeartbeats 400000 in
theorem l_ar52c (fu : Nat) (hfu : 300 ≤ fu) {z th sz : Nat → Int32} {S A : Stk} {ops : Nat} (h : rM z th sz S A ops) : ok (xb_M_isArithmetic_52 fu (nI 165) (nI 3) z th sz) (op4 (arS 165 S A ops) z) := by
  unfold xb_M_isArithmetic_52
  have hl := h.2.2.2.2.1
  have e0 := arS_c S A ops
  refine ok_bd1 (v_has fu z (n := 3) (by omega) (by decide) h.1.1) (fun v hv => ok_tf hv (fun q => ok_some (op4_0 ?_ h (zf_r _))) (fun q => ?_))
  · rw [e0]
    match S, q with
    | [], _ => rfl
    | [x], _ => rfl
    | [y, x], _ => rfl
    | y :: x :: w :: S, q => exact absurd (show 3 ≤ S.length + 1 + 1 + 1 by omega) q
  · match S, q, h, hl, e0 with
    | [], q, _, _, _ => exact absurd q (by decide)
    | [x], q, _, _, _ => exact absurd (show 3 ≤ 1 from q) (by decide)
    | [y, x], q, _, _, _ => exact absurd (show 3 ≤ 2 from q) (by decide)
    | c :: b :: a :: S, q, h, hl, e0 =>
      replace hl : S.length + 1 + 1 + 1 + A.length ≤ 202 := hl
      have h9 : z 9 = nI (S.length + 3) := h.1.1
      have s0 := h.2.1.1
      have s1 := h.2.1.2.1
      have s2 := h.2.1.2.2.1
      rw [Nat.zero_add] at s0 s1 s2
      replace s0 : sl th sz (S.length + 2) c := s0
      replace s1 : sl th sz (S.length + 1) b := s1
      have eN : ∀ P : Prop, ¬ P → ((isNu a && isNu b && isNu c) = true → P) → (match (c :: b :: a :: S) with | c :: b :: a :: S => if isNu a && isNu b && isNu c then some (bT (decide (numL b ≤ numL a ∧ numL a < numL c)) :: S, A, ops) else none | _ => none) = none := fun P hP hi => by
        show (if (isNu a && isNu b && isNu c) = true then _ else none) = none
        rw [if_neg (fun e => hP (hi e))]
      obtain ⟨f, hf⟩ : ∃ f, fu = f + 1 + 1 + 1 + 1 := ⟨fu - 4, by omega⟩
      rw [show x_M_isArithmetic_64 fu fu = x_M_isArithmetic_64 fu (f + 1 + 1 + 1 + 1) from by rw [← hf]]
      show ok (xb_M_isArithmetic_64 fu (x_M_isArithmetic_64 fu (f + 1 + 1 + 1)) (nI 165) (nI 3) (nI 1) z th sz) _
      unfold xb_M_isArithmetic_64
      rw [h9, nI_sb (show 1 ≤ S.length + 3 by omega), show S.length + 3 - 1 = S.length + 2 from rfl]
      refine ok_f (by decide) (ok_bnd (ok_bd1 (v_isNumber fu z th sz (by omega) s0) (fun v hv => ok_tf hv (fun q => ok_some (op4_0 (e0.trans (eN _ q (fun e => (Bool.and_eq_true _ _ ▸ e).2))) h (zf_r _))) (fun qc => ok_bn (nI_1 1) ?_))))
      show ok (xb_M_isArithmetic_64 fu (x_M_isArithmetic_64 fu (f + 1 + 1)) (nI 165) (nI 3) (nI 2) z th sz) _
      unfold xb_M_isArithmetic_64
      rw [h9, nI_sb (show 2 ≤ S.length + 3 by omega), show S.length + 3 - 2 = S.length + 1 from rfl]
      refine ok_f (by decide) (ok_bnd (ok_bd1 (v_isNumber fu z th sz (by omega) s1) (fun v hv => ok_tf hv (fun q => ok_some (op4_0 (e0.trans (eN _ q (fun e => (Bool.and_eq_true _ _ ▸ (Bool.and_eq_true _ _ ▸ e).1).2))) h (zf_r _))) (fun qb => ok_bn (nI_1 2) ?_))))
      show ok (xb_M_isArithmetic_64 fu (x_M_isArithmetic_64 fu (f + 1)) (nI 165) (nI 3) (nI 3) z th sz) _
      unfold xb_M_isArithmetic_64
      rw [h9, nI_sb (show 3 ≤ S.length + 3 by omega), show S.length + 3 - 3 = S.length from rfl]
      refine ok_f (by decide) (ok_bnd (ok_bd1 (v_isNumber fu z th sz (by omega) s2) (fun v hv => ok_tf hv (fun q => ok_some (op4_0 (e0.trans (eN _ q (fun e => (Bool.and_eq_true _ _ ▸ (Bool.and_eq_true _ _ ▸ e).1).1))) h (zf_r _))) (fun qa => ok_bn (nI_1 3) ?_))))
      show ok (xb_M_isArithmetic_64 fu (x_M_isArithmetic_64 fu f) (nI 165) (nI 3) (nI 4) z th sz) _
      unfold xb_M_isArithmetic_64
      rw [h9, nI_sb (show 3 ≤ S.length + 3 by omega), show S.length + 3 - 3 = S.length from rfl]
      refine ok_t (by decide) (ok_bnd (ok_bd1 (v_numberAt fu hfu z th sz (by omega) s2 qa) (fun v hv => ok_f (by decide) (ok_bnd (ok_bn (nI_1 _) (ok_bd1 (v_numberAt fu hfu z th sz (by omega) s1 qb) (fun v' hv' => ?_)))))))
      unfold xb_M_isArithmetic_122
      rw [h9]
      refine ok_f (by decide) (ok_bn (e' := nI (S.length + 2)) (nI_sb (show 1 ≤ S.length + 3 by omega)) (ok_bd1 (v_numberAt fu hfu z th sz (by omega) s0 qc) (fun v'' hv'' => ?_)))
      exact l_ar143c fu (by omega) h qa qb qc hv hv' hv''
set_option maxHeartbeats 400000 in
theorem arS_bad {o : Nat} (ho : o = 141 ∨ o = 142 ∨ (149 ≤ o ∧ o ≤ 153)) (S A : Stk) (ops : Nat) : arS o S A ops = none := by
  have cs : o = 141 ∨ o = 142 ∨ o = 149 ∨ o = 150 ∨ o = 151 ∨ o = 152 ∨ o = 153 := by omega
  rcases cs with rfl | rfl | rfl | rfl | rfl | rfl | rfl
  · match S with
    | [] => rfl
    | x :: S =>
      show (if isNu x = true then none else none) = none
      split <;> rfl
  · match S with
    | [] => rfl
    | x :: S =>
      show (if isNu x = true then none else none) = none
      split <;> rfl
  all_goals
    match S with
    | [] => rfl
    | [x] => rfl
    | y :: x :: S =>
      show (if (isNu x && isNu y) = true then none else none) = none
      split <;> rfl
set_option maxHeartbeats 400000 in
theorem v_isArithmetic (fu : Nat) (hfu : 300 ≤ fu) {z th sz : Nat → Int32} {S A : Stk} {ops o : Nat} (h : rM z th sz S A ops) (ho : 139 ≤ o ∧ o ≤ 165) : ok (x_M_isArithmetic fu (nI o) z th sz) (op4 (arS o S A ops) z) := by
  unfold x_M_isArithmetic
  have N : ∀ k n, k < 200 → (nI o = nI k ↔ o = k) := fun k n hk => nI_eq (by omega) (by omega)
  have L1 : nI o < (149 : Int32) ↔ o < 149 := nI_ltI (b := 149) (by omega) (by decide)
  have L2 : nI o ≤ (153 : Int32) ↔ o ≤ 153 := nI_leI (b := 153) (by omega) (by decide)
  have L3 : (146 : Int32) < nI o ↔ 146 < o := nI_ltI (a := 146) (by decide) (by omega)
  have E1 : nI o = (141 : Int32) ↔ o = 141 := nI_eq (b := 141) (by omega) (by decide)
  have E2 : nI o = (142 : Int32) ↔ o = 142 := nI_eq (b := 142) (by omega) (by decide)
  have E3 : nI o = (165 : Int32) ↔ o = 165 := nI_eq (b := 165) (by omega) (by decide)
  have K : ∀ m, (o ≠ 141 ∧ o ≠ 142 ∧ (o < 149 ∨ 153 < o) → ok (xb_M_isArithmetic_52 fu (nI o) (nI m) z th sz) (op4 (arS o S A ops) z)) → ok (xb_M_isArithmetic_23 fu (nI o) (nI m) z th sz) (op4 (arS o S A ops) z) := fun m hm => by
    unfold xb_M_isArithmetic_23
    by_cases q1 : o = 141
    · exact ok_t (E1.mpr q1) (ok_some (op4_0 (arS_bad (Or.inl q1) _ _ _) h (zf_r _)))
    refine ok_f (fun w => q1 (E1.mp w)) ?_
    by_cases q2 : o = 142
    · exact ok_t (E2.mpr q2) (ok_some (op4_0 (arS_bad (Or.inr (Or.inl q2)) _ _ _) h (zf_r _)))
    refine ok_f (fun w => q2 (E2.mp w)) ?_
    by_cases q3 : o < 149
    · exact ok_t (L1.mpr q3) (hm ⟨q1, q2, Or.inl q3⟩)
    refine ok_f (fun w => q3 (L1.mp w)) ?_
    by_cases q4 : o ≤ 153
    · exact ok_t (L2.mpr q4) (ok_some (op4_0 (arS_bad (Or.inr (Or.inr ⟨by omega, q4⟩)) _ _ _) h (zf_r _)))
    · exact ok_f (fun w => q4 (L2.mp w)) (hm ⟨q1, q2, Or.inr (by omega)⟩)
  by_cases q : o = 165
  · refine ok_t (E3.mpr q) (K 3 fun _ => ?_)
    rw [q]
    exact l_ar52c fu hfu h
  refine ok_f (fun w => q (E3.mp w)) ?_
  by_cases q2 : 146 < o
  · exact ok_t (L3.mpr q2) (K 2 fun w => l_ar52b fu hfu h ⟨by omega, by omega, by omega⟩)
  · exact ok_f (fun w => q2 (L3.mp w)) (K 1 fun w => l_ar52a fu hfu h ⟨by omega, by omega, w.1, w.2.1⟩)
set_option maxHeartbeats 400000 in
/-- again: the k-th thing once more -/
theorem v_again (fu : Nat) {z th sz : Nat → Int32} {S A : Stk} {ops k : Nat} (h : rM z th sz S A ops) (hl : S.length + 1 + A.length ≤ 202) (hk : 1 ≤ k) (hk2 : k < 2 ^ 30) : ok (x_M_again fu (nI k) z th sz) (op4 (if k ≤ S.length then some (S.getD (k - 1) [] :: S, A, ops) else none) z) := by
  unfold x_M_again
  refine ok_bd1 (v_has fu z (n := k) (by omega) (by omega) h.1.1) (fun v hv => ok_tf hv (fun q => ok_some (op4_0 (if_neg q) h (zf_r _))) (fun q => ?_))
  rw [if_pos q, h.1.1, nI_sb q]
  have s := stU_g (i := k - 1) (by omega) h.2.1
  rw [Nat.zero_add, show S.length - 1 - (k - 1) = S.length - k from by omega] at s
  refine ok_bnd (ok_bd2 (v_move fu z th sz h.2.2.2.1 (by omega) (by omega) s) (fun f3 f4 w => ok_bn (nI_1 _) (ok_bnd (ok_some ?_))))
  replace w : wS th sz S.length (S.getD (k - 1) []) f3 f4 := w
  exact ⟨zf_9 _, w.2.2.2, Or.inr ⟨_, _, _, rfl, rfl, rM_w (z' := upd z 9 (nI (S.length + 1))) h h.2.1 hl w pk_us (pk_un (by decide)) (pk_un (by decide))⟩⟩
