-- the class's machine: joined numbers, hashes, one op
def a2S (k : Nat) (S A : Stk) (ops : Nat) : Option (Stk × Stk × Nat) := match S with
  | y :: x :: S => if (isNu x && isNu y) = true then (ar2 k (numL x) (numL y)).map fun w => (w ++ S, A, ops) else none
  | _ => none
set_option maxHeartbeats 1000000 in
theorem arS_2 {k : Nat} (hk : 146 < k ∧ k ≤ 164) (S A : Stk) (ops : Nat) : arS k S A ops = a2S k S A ops := by
  unfold arS
  rw [if_neg (by omega), if_pos hk.2]
  rfl
set_option maxHeartbeats 1000000 in
theorem v_Ma_joinNumbers (fu : Nat) (hfu : 1600 ≤ fu) (j2 j3 j4 j5 j7 j8 j9 : Int32) (sg : List Int32 → List Int32 → Bool) {D m o : Nat → Int32} {fr : Nat} {S A : Stk} (ops : Nat) (h : kM D fr m o S A) {k : Nat} (hk : 146 < k ∧ k ≤ 164) : ok (x_Ma_joinNumbers fu j2 j3 j4 j5 j7 j8 j9 (nI k) (nI S.length) (nI fr) D m) (maQ5 (opS sg hsF k S A ops) A ops fr D) := by
  have hD := h.2.2.1
  have hs := h.2.2.2.1
  have hl := h.2.2.2.2.1
  have hfr := h.2.2.2.2.2
  rw [opS_ar sg ⟨by omega, by omega⟩ S A ops]
  unfold x_Ma_joinNumbers
  rw [arS_2 hk]
  match S, h, hl with
  | [], h, hl => exact ok_t (by decide) (ok_some (maQ_0 hD rfl))
  | [x], h, hl => exact ok_t (show nI 1 < (2 : Int32) by decide) (ok_some (maQ_0 hD rfl))
  | y :: x :: S, h, hl =>
    replace hl : S.length + 1 + 1 + A.length ≤ 200 := hl
    show ok _ (maQ5 (if (isNu x && isNu y) = true then (ar2 k (numL x) (numL y)).map fun w => (w ++ S, A, ops) else none) A ops fr D)
    have hy := h.1.1
    have hx := h.1.2.1
    replace hy : hO D fr (m (S.length + 1)) y := hy
    refine ok_f (fun e => by have := (nI_ltI (a := S.length + 2) (b := 2) (by omega) (by omega)).mp e; omega) (ok_bn (e' := nI S.length) (nI_sb (a := S.length + 2) (b := 2) (by omega)) (ok_gd (inb_nI (by omega) (by decide)) ?_))
    rw [nI_clamp (n := S.length) (by omega)]
    refine ok_bnd (ok_bd1 (v_Ma_isNumber fu (nI (S.length + 2)) j2 j3 j4 j5 (nI fr) j7 j8 j9 (by omega) hx) (fun v hv => ok_tf hv (fun q => ok_some (maQ_0 hD ?_)) (fun qx => ?_)))
    · rw [if_neg (fun e => q (Bool.and_eq_true_iff.mp e).1)]
    refine ok_bn (e' := nI (S.length + 1)) (nI_sb (a := S.length + 2) (b := 1) (by omega)) (ok_gd (inb_nI (by omega) (by decide)) ?_)
    rw [nI_clamp (n := S.length + 1) (by omega)]
    refine ok_bnd (ok_bd1 (v_Ma_isNumber fu (nI (S.length + 2)) j2 j3 j4 j5 (nI fr) j7 j8 j9 (by omega) hy) (fun v hv => ok_tf hv (fun q => ok_some (maQ_0 hD ?_)) (fun qy => ?_)))
    · rw [if_neg (fun e => q (Bool.and_eq_true_iff.mp e).2)]
    rw [if_pos (Bool.and_eq_true_iff.mpr ⟨qx, qy⟩)]
    have hb := numL_b (L := x) (of_decide_eq_true qx)
    have hb' := numL_b (L := y) (of_decide_eq_true qy)
    refine ok_bn (e' := nI S.length) (nI_sb (a := S.length + 2) (b := 2) (by omega)) (ok_gd (inb_nI (by omega) (by decide)) ?_)
    rw [nI_clamp (n := S.length) (by omega)]
    refine ok_bnd (ok_bd1 (v_Ma_numberOf fu (by omega) (nI (S.length + 2)) j2 j3 j4 j5 (nI fr) j7 j8 j9 (by omega) hx qx) (fun v9 h3 => ?_))
    refine ok_bn (e' := nI (S.length + 1)) (nI_sb (a := S.length + 2) (b := 1) (by omega)) (ok_gd (inb_nI (by omega) (by decide)) ?_)
    rw [nI_clamp (n := S.length + 1) (by omega)]
    refine ok_bnd (ok_bd1 (v_Ma_numberOf fu (by omega) (nI (S.length + 2)) j2 j3 j4 j5 (nI fr) j7 j8 j9 (by omega) hy qy) (fun v12 h5 => ok_bn (e' := nI S.length) (nI_sb (a := S.length + 2) (b := 2) (by omega)) ?_))
    generalize hn : numL x = a at *
    generalize hm : numL y = b at *
    obtain ⟨W, hW⟩ : ∃ W, (ar2 k a b).map (fun w => (w ++ S, A, ops)) = W := ⟨_, rfl⟩
    rw [hW]
    have PE : ∀ (z : Int64) (v : Int), z.toInt = v → v.natAbs < 2 ^ 40 → ar2 k a b = some [nb v] → ok (bd4 (x_Ma_pushNumber fu j2 j3 j4 j5 j7 j8 j9 z (nI S.length) (nI fr) D m) fun e8 e9 f10 f11 => some ((1 : Int32), e8, e9, f10, f11)) (maQ5 W A ops fr D) := fun z v hz hv e => by
      refine ok_bd4 (v_Ma_pushNumber fu (by omega) j2 j3 j4 j5 j7 j8 j9 hz hv D m (n := S.length) (by omega) (by omega)) (fun a b c d w => ok_some ?_)
      exact maQ_n hD hfr.1 h.1.2.2 (by omega) (by rw [← hW, e]; rfl) w
    have hk256 : k < 256 := by omega
    refine ok_op (k := 147) hk256 (by decide) rfl (fun e => ok_bnd (PE _ (a + b) (add_I h3 h5 (by omega)) (by omega) (by subst e; rfl))) (fun n1 => ?_)
    refine ok_op (k := 148) hk256 (by decide) rfl (fun e => ok_bnd (PE _ (a - b) (sub_I h3 h5 (by omega)) (by omega) (by subst e; rfl))) (fun n2 => ?_)
    have i1 : v12 < v9 ↔ b < a := by rw [Int64.lt_iff_toInt_lt, h3, h5]
    refine ok_op (k := 163) hk256 (by decide) rfl (fun e => ok_bnd (PE _ (if a < b then a else b) ?_ ?_ (by subst e; rfl))) (fun n3 => ?_)
    · by_cases q : b < a
      · rw [if_pos (i1.mpr q), if_neg (by omega)]; exact h5
      · rw [if_neg (fun z => q (i1.mp z)), h3]
        split <;> omega
    · split <;> omega
    refine ok_op (k := 164) hk256 (by decide) rfl (fun e => ok_bnd (PE _ (if b < a then a else b) ?_ ?_ (by subst e; rfl))) (fun n4 => ?_)
    · by_cases q : b < a
      · rw [if_pos (i1.mpr q), if_pos q]; exact h3
      · rw [if_neg (fun z => q (i1.mp z)), if_neg q]; exact h5
    · split <;> omega
    by_cases c : 154 ≤ k
    · refine ok_t ((nI_leI (a := 154) (by omega) (by omega)).mpr c) ?_
      obtain ⟨B, g1, g2, g3⟩ := v_Ma_holds fu (k := k) ⟨c, by omega⟩ h3 h5
      refine ok_bd1 g1 (fun v34 hv => ?_)
      have P : ∀ y0 : Int32, (y0 = if B then 8449 else 0) → ok (xb_Ma_joinNumbers_203 fu j2 j3 j4 j5 j7 j8 j9 (nI k) y0 (nI S.length) (nI fr) D m) (maQ5 W A ops fr D) := fun y0 hy0 => by
        unfold xb_Ma_joinNumbers_203 xb_Ma_joinNumbers_220
        refine ok_bd2 (v_Ma_push fu j2 j3 j4 j5 (nI fr) j7 j8 j9 y0 m (show S.length < 204 by omega)) (fun e1 f2 w => ?_)
        obtain ⟨w1, w2⟩ := w
        replace w1 : e1 = nI (S.length + 1) := w1
        replace w2 : f2 = upd m S.length y0 := w2
        refine ok_op (k := 157) hk256 (by decide) rfl (fun e => ?_) (fun n5 => ?_)
        · have hB : stH D fr f2 (bT B :: S) := by
            rw [w2]
            refine stH_p h.1.2.2 ?_ rfl
            rw [hy0]
            cases B with
            | true => exact hO_b hs hfr.1
            | false => exact hO_f fr
          have V := v_Ma_verifyTop fu (by omega) j2 j3 j4 j5 (nI fr) j7 j8 j9 hD (by omega) hB (by show S.length + 1 ≤ 204; omega)
          rw [show (bT B :: S).length = S.length + 1 from rfl, ← w1] at V
          have eW : W = if B = true then some (S, A, ops) else none := by
            rw [← hW, g3 e, e]
            show (if a = b then some [] else none).map (fun w => (w ++ S, A, ops)) = _
            by_cases q : a = b
            · rw [if_pos q, if_pos (decide_eq_true q)]; rfl
            · rw [if_neg q, if_neg (fun z => q (of_decide_eq_true z))]; rfl
          refine ok_bd2 V (fun v3 e4 w => ?_)
          rcases w with ⟨w3, w4⟩ | ⟨S', w3, w4, w5, w6, w7⟩
          · exact ok_t w4 (ok_some (maQ_v (v := 0) hD (by omega) eW (Or.inl ⟨w3, rfl⟩)))
          · exact ok_f (by replace w4 : v3 = 1 := w4; rw [w4]; decide) (ok_some (maQ_v (v := 1) hD (by omega) eW (Or.inr ⟨S', w3, rfl, w5, w6, w7⟩)))
        · exact ok_some (maQ_b hD hs hfr.1 h.1.2.2 (by omega) (by rw [← hW, g2 n5]; rfl) hy0 w1 w2)
      exact ok_tf hv (fun q => P _ (by rw [if_neg q])) (fun q => P _ (by rw [if_pos q]))
    · refine ok_f (fun e => c ((nI_leI (a := 154) (by omega) (by omega)).mp e)) (ok_some (maQ_0 hD ?_))
      rw [← hW]
      have cs : k = 149 ∨ k = 150 ∨ k = 151 ∨ k = 152 ∨ k = 153 := by omega
      rcases cs with rfl | rfl | rfl | rfl | rfl <;> rfl
set_option maxHeartbeats 1000000 in
theorem v_Ma_within (fu : Nat) (hfu : 1600 ≤ fu) (j2 j3 j4 j5 j7 j8 j9 : Int32) (sg : List Int32 → List Int32 → Bool) {D m o : Nat → Int32} {fr : Nat} {S A : Stk} (ops : Nat) (h : kM D fr m o S A) : ok (x_Ma_within fu j2 j3 j4 j5 (nI fr) j7 j8 j9 D (nI S.length) m) (maQ3 (opS sg hsF 165 S A ops) A ops fr D) := by
  have hD := h.2.2.1
  have hs := h.2.2.2.1
  have hl := h.2.2.2.2.1
  have hfr := h.2.2.2.2.2
  unfold x_Ma_within
  match S, h, hl with
  | [], h, hl => exact ok_t (by decide) (ok_some (maQ_0 hD rfl))
  | [x], h, hl => exact ok_t (show nI 1 < (3 : Int32) by decide) (ok_some (maQ_0 hD rfl))
  | [x, y], h, hl => exact ok_t (show nI 2 < (3 : Int32) by decide) (ok_some (maQ_0 hD rfl))
  | z :: y :: x :: S, h, hl =>
    replace hl : S.length + 1 + 1 + 1 + A.length ≤ 200 := hl
    show ok _ (maQ3 (if (isNu x && isNu y && isNu z) = true then some (bT (decide (numL y ≤ numL x ∧ numL x < numL z)) :: S, A, ops) else none) A ops fr D)
    have hz := h.1.1
    have hy := h.1.2.1
    have hx := h.1.2.2.1
    replace hz : hO D fr (m (S.length + 2)) z := hz
    replace hy : hO D fr (m (S.length + 1)) y := hy
    refine ok_f (fun e => by have := (nI_ltI (a := S.length + 3) (b := 3) (by omega) (by omega)).mp e; omega) (ok_bn (e' := nI S.length) (nI_sb (a := S.length + 3) (b := 3) (by omega)) (ok_gd (inb_nI (by omega) (by decide)) ?_))
    rw [nI_clamp (n := S.length) (by omega)]
    refine ok_bnd (ok_bd1 (v_Ma_isNumber fu (nI (S.length + 3)) j2 j3 j4 j5 (nI fr) j7 j8 j9 (by omega) hx) (fun v hv => ok_tf hv (fun q => ok_some (maQ_0 hD ?_)) (fun qx => ?_)))
    · rw [if_neg (fun e => q (Bool.and_eq_true_iff.mp (Bool.and_eq_true_iff.mp e).1).1)]
    refine ok_bn (e' := nI (S.length + 1)) (nI_sb (a := S.length + 3) (b := 2) (by omega)) (ok_gd (inb_nI (by omega) (by decide)) ?_)
    rw [nI_clamp (n := S.length + 1) (by omega)]
    refine ok_bnd (ok_bd1 (v_Ma_isNumber fu (nI (S.length + 3)) j2 j3 j4 j5 (nI fr) j7 j8 j9 (by omega) hy) (fun v hv => ok_tf hv (fun q => ok_some (maQ_0 hD ?_)) (fun qy => ?_)))
    · rw [if_neg (fun e => q (Bool.and_eq_true_iff.mp (Bool.and_eq_true_iff.mp e).1).2)]
    refine ok_bn (e' := nI (S.length + 2)) (nI_sb (a := S.length + 3) (b := 1) (by omega)) (ok_gd (inb_nI (by omega) (by decide)) ?_)
    rw [nI_clamp (n := S.length + 2) (by omega)]
    refine ok_bnd (ok_bd1 (v_Ma_isNumber fu (nI (S.length + 3)) j2 j3 j4 j5 (nI fr) j7 j8 j9 (by omega) hz) (fun v hv => ok_tf hv (fun q => ok_some (maQ_0 hD ?_)) (fun qz => ?_)))
    · rw [if_neg (fun e => q (Bool.and_eq_true_iff.mp e).2)]
    rw [if_pos (Bool.and_eq_true_iff.mpr ⟨Bool.and_eq_true_iff.mpr ⟨qx, qy⟩, qz⟩)]
    refine ok_bn (e' := nI S.length) (nI_sb (a := S.length + 3) (b := 3) (by omega)) (ok_gd (inb_nI (by omega) (by decide)) ?_)
    rw [nI_clamp (n := S.length) (by omega)]
    refine ok_bnd (ok_bd1 (v_Ma_numberOf fu (by omega) (nI S.length) j2 j3 j4 j5 (nI fr) j7 j8 j9 (by omega) hx qx) (fun v12 h3 => ok_bn (nI_1 _) (ok_gd (inb_nI (by omega) (by decide)) ?_)))
    rw [nI_clamp (n := S.length + 1) (by omega)]
    refine ok_bnd (ok_bd1 (v_Ma_numberOf fu (by omega) (nI S.length) j2 j3 j4 j5 (nI fr) j7 j8 j9 (by omega) hy qy) (fun v15 h5 => ?_))
    unfold xb_Ma_within_135
    have P : ∀ (b : Bool) (y0 : Int32), (y0 = if b then 8449 else 0) → decide (numL y ≤ numL x ∧ numL x < numL z) = b → ok (xb_Ma_within_136 fu j2 j3 j4 j5 (nI fr) j7 j8 j9 D y0 (nI S.length) m) (maQ3 (some (bT (decide (numL y ≤ numL x ∧ numL x < numL z)) :: S, A, ops)) A ops fr D) := fun b y0 hy0 hb => by
      unfold xb_Ma_within_136
      refine ok_bd2 (v_Ma_push fu j2 j3 j4 j5 (nI fr) j7 j8 j9 y0 m (show S.length < 204 by omega)) (fun e1 f2 w => ok_some ?_)
      exact maQ_b hD hs hfr.1 h.1.2.2.2 (by omega) (by rw [hb]) hy0 w.1 w.2
    by_cases q1 : numL x < numL y
    · exact ok_t ((lg_lt' h3 h5).mpr q1) (P false 0 rfl (decide_eq_false fun e => by have := e.1; omega))
    refine ok_f (fun e => q1 ((lg_lt' h3 h5).mp e)) (ok_bn (nI_add S.length 2) (ok_gd (inb_nI (by omega) (by decide)) ?_))
    rw [nI_clamp (n := S.length + 2) (by omega)]
    refine ok_bnd (ok_bd1 (v_Ma_numberOf fu (by omega) (nI S.length) j2 j3 j4 j5 (nI fr) j7 j8 j9 (by omega) hz qz) (fun v18 h7 => ?_))
    by_cases q2 : numL z ≤ numL x
    · exact ok_t ((lg_ge h3 h7).mpr q2) (P false 0 rfl (decide_eq_false fun e => by have := e.2; omega))
    · exact ok_f (fun e => q2 ((lg_ge h3 h7).mp e)) (P true 8449 rfl (decide_eq_true ⟨by omega, by omega⟩))
