-- the reference's machine: ops one by one
abbrev T30 : Type := Int32 × (Nat → Int32) × (Nat → Int32) × (Nat → Int32) × (Nat → Int32) × (Nat → Int32) × (Nat → Int32) × (Nat → Int32) × (Nat → Int32) × (Nat → Int32) × (Nat → Int32) × (Nat → Int32) × (Nat → Int32) × (Nat → Int32) × (Nat → Int32) × (Nat → Int32) × (Nat → Int32) × (Nat → Int32) × (Nat → Int32) × (Nat → Int32) × (Nat → Int32) × (Nat → Int32) × (Nat → Int32) × (Nat → Int32) × (Nat → Int32) × (Nat → Int32) × (Nat → Int32) × (Nat → Int32) × (Nat → Int32) × (Nat → Int32)
def op30 (W : Option (Stk × Stk × Nat)) (z0 : Nat → Int32) (x : T30) : Prop := match x with
  | (b, z, _, _, _, _, _, _, _, _, _, _, _, _, _, _, _, _, _, _, _, _, _, _, _, _, _, th, sz, _) => opQ W z0 b z th sz
set_option maxHeartbeats 400000 in
theorem opQ_1 {W : Option (Stk × Stk × Nat)} {z0 z th sz : Nat → Int32} {S A : Stk} {n : Nat} (hW : W = some (S, A, n)) (hz : zf z0 z) (h : rM z th sz S A n) : opQ W z0 1 z th sz := ⟨hz, h.2.2.2.1, Or.inr ⟨_, _, _, hW, rfl, h⟩⟩
set_option maxHeartbeats 400000 in
theorem opQ_0 {W : Option (Stk × Stk × Nat)} {z0 z th sz : Nat → Int32} (hW : W = none) (hz : zf z0 z) (h : ftB th) : opQ W z0 0 z th sz := ⟨hz, h, Or.inl ⟨hW, rfl⟩⟩
set_option maxHeartbeats 400000 in
theorem opQ_tf {W : Option (Stk × Stk × Nat)} {z0 z th sz : Nat → Int32} {S A : Stk} {n : Nat} {v : Int32} {b : Bool} (hv : tf (b = true) v) (hW : W = if b = true then some (S, A, n) else none) (hz : zf z0 z) (h : rM z th sz S A n) : opQ W z0 v z th sz := by
  rcases hv with ⟨h1, h2⟩ | ⟨h1, h2⟩
  · subst h2
    exact opQ_1 (by rw [hW, if_pos h1]) hz h
  · subst h2
    exact opQ_0 (by rw [hW, if_neg h1]) hz h.2.2.2.1
set_option maxHeartbeats 400000 in
theorem opQ_isb {W : Option (Stk × Stk × Nat)} {z0 z th sz : Nat → Int32} {v : Int32} (h : opQ W z0 v z th sz) : isb v = true := by
  rcases h.2.2 with ⟨-, e⟩ | ⟨-, -, -, -, e, -⟩ <;> subst e <;> decide
set_option maxHeartbeats 400000 in
theorem opQ_s {z0 z th sz : Nat → Int32} {S A : Stk} {n : Nat} {v : Int32} (h : opQ (some (S, A, n)) z0 v z th sz) : zf z0 z ∧ v = 1 ∧ rM z th sz S A n := by
  obtain ⟨h1, h2, h3⟩ := h
  rcases h3 with ⟨e, -⟩ | ⟨S', A', n', e, e2, e3⟩
  · exact absurd e (by simp)
  · have e := Option.some.inj e
    have q1 : S = S' := congrArg Prod.fst e
    have q2 : A = A' := congrArg (fun x => x.2.1) e
    have q3 : n = n' := congrArg (fun x => x.2.2) e
    subst q1 q2 q3
    exact ⟨h1, e2, e3⟩
set_option maxHeartbeats 400000 in
theorem l_d97 (fu : Nat) (hfu : 1600 ≤ fu) (sg : List Int32 → List Int32 → Bool) {z th sz : Nat → Int32} {S A : Stk} {ops : Nat} (h : rM z th sz S A ops) (hl : S.length + A.length ≤ 200) (s1 s2 s3 s4 s5 s6 s7 s8 s9 s10 s11 s12 s13 s14 s15 s16 s17 s18 s19 s20 s21 s22 s23 s24 s25 mg : Nat → Int32) : ok (some ((1 : Int32), z, s1, s2, s3, s4, s5, s6, s7, s8, s9, s10, s11, s12, s13, s14, s15, s16, s17, s18, s19, s20, s21, s22, s23, s24, s25, th, sz, mg)) (op30 (opS sg hsF 97 S A ops) z) := by
  exact ok_some (opQ_1 rfl (zf_r _) h)
set_option maxHeartbeats 400000 in
theorem l_d105 (fu : Nat) (hfu : 1600 ≤ fu) (sg : List Int32 → List Int32 → Bool) {z th sz : Nat → Int32} {S A : Stk} {ops : Nat} (h : rM z th sz S A ops) (hl : S.length + A.length ≤ 200) (s1 s2 s3 s4 s5 s6 s7 s8 s9 s10 s11 s12 s13 s14 s15 s16 s17 s18 s19 s20 s21 s22 s23 s24 s25 mg : Nat → Int32) : ok (bd1 (x_M_has fu z (1 : Int32)) fun v1 => if v1 = 0 then (some ((0 : Int32), z, s1, s2, s3, s4, s5, s6, s7, s8, s9, s10, s11, s12, s13, s14, s15, s16, s17, s18, s19, s20, s21, s22, s23, s24, s25, th, sz, mg)) else (bnd ((z 9) - (1 : Int32)) fun v2 => bnd (upd z 9 v2) fun z3 => bd1 (x_M_isTrue1 fu z3 th sz (z3 9)) fun v4 => gd (isb v4) <| some (v4, z3, s1, s2, s3, s4, s5, s6, s7, s8, s9, s10, s11, s12, s13, s14, s15, s16, s17, s18, s19, s20, s21, s22, s23, s24, s25, th, sz, mg))) (op30 (opS sg hsF 105 S A ops) z) := by
  refine ok_bd1 (v_has fu z (n := 1) (by omega) (by decide) h.1.1) (fun v hv => ok_tf hv (fun q => ok_some ?_) (fun q => ?_))
  · have e : S = [] := List.eq_nil_of_length_eq_zero (by omega)
    subst e
    exact opQ_0 rfl (zf_r _) h.2.2.2.1
  cases S with
  | nil => exact absurd q (by decide)
  | cons x S =>
    replace hl : S.length + 1 + A.length ≤ 200 := hl
    have h9 : z 9 = nI (S.length + 1) := h.1.1
    have s0 := h.2.1.1
    rw [Nat.zero_add] at s0
    have hS := h.2.1.2
    have e9 : nI (S.length + 1) - (1 : Int32) = nI S.length := nI_sb (b := 1) (by omega)
    rw [h9, e9]
    refine ok_bnd (ok_bnd ?_)
    rw [show (upd z 9 (nI S.length)) 9 = nI S.length from pk_us]
    refine ok_bd1 (v_isTrue1 fu (by omega) _ th sz (by omega) s0) (fun v hv => ok_gd (tf_isb hv) (ok_some ?_))
    exact opQ_tf hv rfl (zf_9 _) (rM_d (z' := upd z 9 (nI S.length)) h hS (by omega) pk_us (pk_un (by decide)) (pk_un (by decide)))
set_option maxHeartbeats 400000 in
theorem l_d107 (fu : Nat) (hfu : 1600 ≤ fu) (sg : List Int32 → List Int32 → Bool) {z th sz : Nat → Int32} {S A : Stk} {ops : Nat} (h : rM z th sz S A ops) (hl : S.length + A.length ≤ 200) (s1 s2 s3 s4 s5 s6 s7 s8 s9 s10 s11 s12 s13 s14 s15 s16 s17 s18 s19 s20 s21 s22 s23 s24 s25 mg : Nat → Int32) : ok (bd1 (x_M_has fu z (1 : Int32)) fun v5 => if v5 = 0 then (some ((0 : Int32), z, s1, s2, s3, s4, s5, s6, s7, s8, s9, s10, s11, s12, s13, s14, s15, s16, s17, s18, s19, s20, s21, s22, s23, s24, s25, th, sz, mg)) else (bnd ((z 9) - (1 : Int32)) fun v6 => bnd (upd z 9 v6) fun z7 => bd1 (x_M_other0 fu (z7 10)) fun v8 => bd2 (x_M_move fu z7 (z7 9) v8 th sz) fun f9 f10 => bnd ((z7 10) + (1 : Int32)) fun v11 => bnd (upd z7 10 v11) fun z12 => some ((1 : Int32), z12, s1, s2, s3, s4, s5, s6, s7, s8, s9, s10, s11, s12, s13, s14, s15, s16, s17, s18, s19, s20, s21, s22, s23, s24, s25, f9, f10, mg))) (op30 (opS sg hsF 107 S A ops) z) := by
  refine ok_bd1 (v_has fu z (n := 1) (by omega) (by decide) h.1.1) (fun v hv => ok_tf hv (fun q => ok_some ?_) (fun q => ?_))
  · have e : S = [] := List.eq_nil_of_length_eq_zero (by omega)
    subst e
    exact opQ_0 rfl (zf_r _) h.2.2.2.1
  cases S with
  | nil => exact absurd q (by decide)
  | cons x S =>
    replace hl : S.length + 1 + A.length ≤ 200 := hl
    have h9 : z 9 = nI (S.length + 1) := h.1.1
    have s0 := h.2.1.1
    rw [Nat.zero_add] at s0
    have hS := h.2.1.2
    have e9 : nI (S.length + 1) - (1 : Int32) = nI S.length := nI_sb (b := 1) (by omega)
    rw [h9, e9]
    have hA : A.length ≤ 200 := by omega
    have h10 : z 10 = nI A.length := h.1.2.1
    refine ok_bnd (ok_bnd ?_)
    rw [show (upd z 9 (nI S.length)) 9 = nI S.length from pk_us, show (upd z 9 (nI S.length)) 10 = nI A.length from by rw [pk_un (by decide)]; exact h10]
    unfold x_M_other0
    refine ok_bd1 (ok_bn (nI_sb (a := 407) (b := A.length) (by omega)) (ok_some rfl)) (fun v hv => ?_)
    subst hv
    refine ok_bd2 (v_move fu _ th sz h.2.2.2.1 (by omega) (by omega) s0) (fun f9 f10 w => ok_bn (nI_1 _) (ok_bnd (ok_some ?_)))
    replace w : wS th sz (407 - A.length) x f9 f10 := w
    obtain ⟨w1, w2, w3, w4⟩ := w
    have sA : stA f9 f10 A := stA_k h.2.2.1 (by omega) (fun j a b => w2 j (by omega)) (fun k a b => w3 k (by omega))
    have sS : stU f9 f10 0 S := stU_k hS (fun j a b => w2 j (by omega)) (fun k a b => w3 k (by omega))
    refine opQ_1 rfl (zf_t (zf_9 _) (zf_10 _)) ⟨⟨?_, ?_, ?_⟩, sS, ⟨w1, sA⟩, w4, by show S.length + (A.length + 1) ≤ 202; omega, h.2.2.2.2.2⟩
    · rw [pk_un (by decide), pk_us]
    · rw [pk_us]; rfl
    · rw [pk_un (by decide), pk_un (by decide)]; exact h.1.2.2
set_option maxHeartbeats 400000 in
theorem l_d108 (fu : Nat) (hfu : 1600 ≤ fu) (sg : List Int32 → List Int32 → Bool) {z th sz : Nat → Int32} {S A : Stk} {ops : Nat} (h : rM z th sz S A ops) (hl : S.length + A.length ≤ 200) (s1 s2 s3 s4 s5 s6 s7 s8 s9 s10 s11 s12 s13 s14 s15 s16 s17 s18 s19 s20 s21 s22 s23 s24 s25 mg : Nat → Int32) : ok (if (z 10) = 0 then (some ((0 : Int32), z, s1, s2, s3, s4, s5, s6, s7, s8, s9, s10, s11, s12, s13, s14, s15, s16, s17, s18, s19, s20, s21, s22, s23, s24, s25, th, sz, mg)) else (bnd ((z 10) - (1 : Int32)) fun v13 => bnd (upd z 10 v13) fun z14 => bd1 (x_M_other0 fu (z14 10)) fun v15 => bd2 (x_M_move fu z14 v15 (z14 9) th sz) fun f16 f17 => bnd ((z14 9) + (1 : Int32)) fun v18 => bnd (upd z14 9 v18) fun z19 => some ((1 : Int32), z19, s1, s2, s3, s4, s5, s6, s7, s8, s9, s10, s11, s12, s13, s14, s15, s16, s17, s18, s19, s20, s21, s22, s23, s24, s25, f16, f17, mg))) (op30 (opS sg hsF 108 S A ops) z) := by
  have h10 : z 10 = nI A.length := h.1.2.1
  rw [h10]
  cases A with
  | nil => exact ok_t rfl (ok_some (opQ_0 rfl (zf_r _) h.2.2.2.1))
  | cons x A =>
    replace hl : S.length + (A.length + 1) ≤ 200 := hl
    have s0 := h.2.2.1.1
    have sA := h.2.2.1.2
    have e10 : nI (A.length + 1) - (1 : Int32) = nI A.length := nI_sb (b := 1) (by omega)
    refine ok_f (fun e => by have := (nI_eq (a := A.length + 1) (b := 0) (by omega) (by omega)).mp e; omega) (ok_bn e10 (ok_bnd ?_))
    rw [show (upd z 10 (nI A.length)) 10 = nI A.length from pk_us, show (upd z 10 (nI A.length)) 9 = nI S.length from by rw [pk_un (by decide)]; exact h.1.1]
    unfold x_M_other0
    refine ok_bd1 (ok_bn (nI_sb (a := 407) (b := A.length) (by omega)) (ok_some rfl)) (fun v hv => ?_)
    subst hv
    refine ok_bd2 (v_move fu _ th sz h.2.2.2.1 (by omega) (by omega) s0) (fun f9 f10 w => ok_bn (nI_1 _) (ok_bnd (ok_some ?_)))
    replace w : wS th sz S.length x f9 f10 := w
    obtain ⟨w1, w2, w3, w4⟩ := w
    have sA' : stA f9 f10 A := stA_k sA (by omega) (fun j a b => w2 j (by omega)) (fun k a b => w3 k (by omega))
    have sS : stU f9 f10 0 S := stU_k h.2.1 (fun j a b => w2 j (by omega)) (fun k a b => w3 k (by omega))
    refine opQ_1 rfl (zf_t (zf_10 _) (zf_9 _)) ⟨⟨?_, ?_, ?_⟩, ⟨by rw [Nat.zero_add]; exact w1, sS⟩, sA', w4, by show S.length + 1 + A.length ≤ 202; omega, h.2.2.2.2.2⟩
    · rw [pk_us]; rfl
    · rw [pk_un (by decide), pk_us]
    · rw [pk_un (by decide), pk_un (by decide)]; exact h.1.2.2
set_option maxHeartbeats 400000 in
theorem l_d109 (fu : Nat) (hfu : 1600 ≤ fu) (sg : List Int32 → List Int32 → Bool) {z th sz : Nat → Int32} {S A : Stk} {ops : Nat} (h : rM z th sz S A ops) (hl : S.length + A.length ≤ 200) (s1 s2 s3 s4 s5 s6 s7 s8 s9 s10 s11 s12 s13 s14 s15 s16 s17 s18 s19 s20 s21 s22 s23 s24 s25 mg : Nat → Int32) : ok (bd1 (x_M_has fu z (2 : Int32)) fun v20 => if v20 = 0 then (some ((0 : Int32), z, s1, s2, s3, s4, s5, s6, s7, s8, s9, s10, s11, s12, s13, s14, s15, s16, s17, s18, s19, s20, s21, s22, s23, s24, s25, th, sz, mg)) else (bnd ((z 9) - (2 : Int32)) fun v21 => bnd (upd z 9 v21) fun z22 => some ((1 : Int32), z22, s1, s2, s3, s4, s5, s6, s7, s8, s9, s10, s11, s12, s13, s14, s15, s16, s17, s18, s19, s20, s21, s22, s23, s24, s25, th, sz, mg))) (op30 (opS sg hsF 109 S A ops) z) := by
  refine ok_bd1 (v_has fu z (n := 2) (by omega) (by decide) h.1.1) (fun v hv => ok_tf hv (fun q => ok_some ?_) (fun q => ?_))
  · match S, q, h with
    | [], q, h => exact opQ_0 rfl (zf_r _) h.2.2.2.1
    | [x], q, h => exact opQ_0 rfl (zf_r _) h.2.2.2.1
    | x :: y :: S, q, h => exact absurd (show 2 ≤ S.length + 1 + 1 by omega) q
  match S, q, h, hl with
  | [], q, h, hl => exact absurd q (by decide)
  | [x], q, h, hl => exact absurd (show 2 ≤ 1 from q) (by decide)
  | x :: y :: S, q, h, hl =>
    replace hl : S.length + 1 + 1 + A.length ≤ 200 := hl
    have h9 : z 9 = nI (S.length + 2) := h.1.1
    have s0 := h.2.1.1
    have s1 := h.2.1.2.1
    rw [Nat.zero_add] at s0 s1
    replace s0 : sl th sz (S.length + 1) x := s0
    have hS := h.2.1.2.2
    have e9 : nI (S.length + 2) - (1 : Int32) = nI (S.length + 1) := nI_sb (b := 1) (by omega)
    have e92 : nI (S.length + 2) - (2 : Int32) = nI S.length := nI_sb (b := 2) (by omega)
    rw [h9, e92]
    exact ok_bnd (ok_bnd (ok_some (opQ_1 rfl (zf_9 _) (rM_d (z' := upd z 9 (nI S.length)) h hS (by omega) pk_us (pk_un (by decide)) (pk_un (by decide))))))
set_option maxHeartbeats 400000 in
theorem l_d110 (fu : Nat) (hfu : 1600 ≤ fu) (sg : List Int32 → List Int32 → Bool) {z th sz : Nat → Int32} {S A : Stk} {ops : Nat} (h : rM z th sz S A ops) (hl : S.length + A.length ≤ 200) (s1 s2 s3 s4 s5 s6 s7 s8 s9 s10 s11 s12 s13 s14 s15 s16 s17 s18 s19 s20 s21 s22 s23 s24 s25 mg : Nat → Int32) : ok (bd4 (x_M_again fu (2 : Int32) z th sz) fun v23 f24 f25 f26 => if v23 = 0 then (some ((0 : Int32), f24, s1, s2, s3, s4, s5, s6, s7, s8, s9, s10, s11, s12, s13, s14, s15, s16, s17, s18, s19, s20, s21, s22, s23, s24, s25, f25, f26, mg)) else (bd4 (x_M_again fu (2 : Int32) f24 f25 f26) fun v27 f28 f29 f30 => if v27 = 0 then (some ((0 : Int32), f28, s1, s2, s3, s4, s5, s6, s7, s8, s9, s10, s11, s12, s13, s14, s15, s16, s17, s18, s19, s20, s21, s22, s23, s24, s25, f29, f30, mg)) else (some ((1 : Int32), f28, s1, s2, s3, s4, s5, s6, s7, s8, s9, s10, s11, s12, s13, s14, s15, s16, s17, s18, s19, s20, s21, s22, s23, s24, s25, f29, f30, mg)))) (op30 (opS sg hsF 110 S A ops) z) := by
  rw [show (2 : Int32) = nI 2 from rfl]
  refine ok_bd4 (v_again fu (k := 2) h (by omega) (by decide) (by decide)) (fun v f1 f2 f3 hq => ?_)
  replace hq : opQ (if 2 ≤ S.length then some (S.getD (2 - 1) [] :: S, A, ops) else none) z v f1 f2 f3 := hq
  obtain ⟨g1, g2, g3⟩ := hq
  rcases g3 with ⟨w1, w2⟩ | ⟨S', A', n', w1, w2, w3⟩
  · refine ok_t w2 (ok_some (opQ_0 ?_ g1 g2))
    match S, w1 with
    | [], _ => rfl
    | [x], _ => rfl
    | x :: y :: S, w1 => rw [if_pos (show 2 ≤ (x :: y :: S).length from Nat.le_add_left 2 S.length)] at w1; exact absurd w1 (by simp)
  · match S, w1, hl with
    | [], w1, hl => exact absurd w1 (by simp)
    | [x], w1, hl => exact absurd w1 (by simp)
    | x :: y :: S, w1, hl =>
      rw [if_pos (show 2 ≤ (x :: y :: S).length from Nat.le_add_left 2 S.length)] at w1
      have w1 := Option.some.inj w1
      have q1 : y :: x :: y :: S = S' := congrArg Prod.fst w1
      have q2 : A = A' := congrArg (fun x => x.2.1) w1
      have q3 : ops = n' := congrArg (fun x => x.2.2) w1
      subst q1 q2 q3
      replace hl : S.length + 1 + 1 + A.length ≤ 200 := hl
      refine ok_f (by rw [w2]; decide) (ok_bd4 (v_again fu (k := 2) w3 (by show S.length + 1 + 1 + 1 + 1 + A.length ≤ 202; omega) (by decide) (by decide)) (fun v' f4 f5 f6 hq => ?_))
      replace hq : opQ (if 2 ≤ S.length + 1 + 1 + 1 then some (x :: y :: x :: y :: S, A, ops) else none) f1 v' f4 f5 f6 := hq
      rw [if_pos (by omega)] at hq
      obtain ⟨k1, k2, k3⟩ := hq
      rcases k3 with ⟨r1, r2⟩ | ⟨S'', A'', n'', r1, r2, r3⟩
      · exact absurd r1 (by simp)
      · have r1 := Option.some.inj r1
        have q1 : x :: y :: x :: y :: S = S'' := congrArg Prod.fst r1
        have q2 : A = A'' := congrArg (fun x => x.2.1) r1
        have q3 : ops = n'' := congrArg (fun x => x.2.2) r1
        subst q1 q2 q3
        exact ok_f (by rw [r2]; decide) (ok_some (opQ_1 rfl (zf_t g1 k1) r3))
set_option maxHeartbeats 400000 in
theorem l_d115 (fu : Nat) (hfu : 1600 ≤ fu) (sg : List Int32 → List Int32 → Bool) (st e1 e2 e3 e4 e5 e6 e7 e8 : Nat → Int32) {z th sz : Nat → Int32} {S A : Stk} {ops : Nat} (h : rM z th sz S A ops) (hl : S.length + A.length ≤ 200) (s1 s2 s3 s4 s5 s6 s7 s8 s9 s10 s11 s12 s13 s14 s15 s16 s17 s18 s19 s20 s21 s22 s23 s24 s25 mg : Nat → Int32) : ok (bd1 (x_M_has fu z (1 : Int32)) fun v31 => if v31 = 0 then (some ((0 : Int32), z, s1, s2, s3, s4, s5, s6, s7, s8, s9, s10, s11, s12, s13, s14, s15, s16, s17, s18, s19, s20, s21, s22, s23, s24, s25, th, sz, mg)) else (bnd ((z 9) - (1 : Int32)) fun v32 => bd1 (x_M_isTrue1 fu z th sz v32) fun v33 => if v33 = 0 then (xb_M_isDone_577 fu st e1 e2 e3 e4 e5 e6 e7 e8 z s1 s2 s3 s4 s5 s6 s7 s8 s9 s10 s11 s12 s13 s14 s15 s16 s17 s18 s19 s20 s21 s22 s23 s24 s25 th sz mg) else (bd4 (x_M_again fu (1 : Int32) z th sz) fun v34 f35 f36 f37 => if v34 = 0 then (some ((0 : Int32), f35, s1, s2, s3, s4, s5, s6, s7, s8, s9, s10, s11, s12, s13, s14, s15, s16, s17, s18, s19, s20, s21, s22, s23, s24, s25, f36, f37, mg)) else (xb_M_isDone_577 fu st e1 e2 e3 e4 e5 e6 e7 e8 f35 s1 s2 s3 s4 s5 s6 s7 s8 s9 s10 s11 s12 s13 s14 s15 s16 s17 s18 s19 s20 s21 s22 s23 s24 s25 f36 f37 mg)))) (op30 (opS sg hsF 115 S A ops) z) := by
  refine ok_bd1 (v_has fu z (n := 1) (by omega) (by decide) h.1.1) (fun v hv => ok_tf hv (fun q => ok_some ?_) (fun q => ?_))
  · have e : S = [] := List.eq_nil_of_length_eq_zero (by omega)
    subst e
    exact opQ_0 rfl (zf_r _) h.2.2.2.1
  cases S with
  | nil => exact absurd q (by decide)
  | cons x S =>
    replace hl : S.length + 1 + A.length ≤ 200 := hl
    have h9 : z 9 = nI (S.length + 1) := h.1.1
    have s0 := h.2.1.1
    rw [Nat.zero_add] at s0
    have hS := h.2.1.2
    have e9 : nI (S.length + 1) - (1 : Int32) = nI S.length := nI_sb (b := 1) (by omega)
    rw [h9, e9]
    unfold xb_M_isDone_577
    refine ok_bnd (ok_bd1 (v_isTrue1 fu (by omega) _ th sz (by omega) s0) (fun v hv => ok_tf hv (fun q => ok_some (opQ_1 ?_ (zf_r _) h)) (fun q => ?_)))
    · show some (if truB x = true then x :: x :: S else x :: S, A, ops) = _
      rw [if_neg q]
    · rw [show (1 : Int32) = nI 1 from rfl]
      refine ok_bd4 (v_again fu (k := 1) h (by show S.length + 1 + 1 + A.length ≤ 202; omega) (by decide) (by decide)) (fun v f1 f2 f3 hq => ?_)
      replace hq : opQ (if 1 ≤ S.length + 1 then some (x :: x :: S, A, ops) else none) z v f1 f2 f3 := hq
      rw [if_pos (by omega)] at hq
      obtain ⟨k1, r2, r3⟩ := opQ_s hq
      refine ok_f (by rw [r2]; decide) (ok_some (opQ_1 ?_ k1 r3))
      show some (if truB x = true then x :: x :: S else x :: S, A, ops) = _
      rw [if_pos q]
set_option maxHeartbeats 400000 in
theorem l_d116 (fu : Nat) (hfu : 1600 ≤ fu) (sg : List Int32 → List Int32 → Bool) {z th sz : Nat → Int32} {S A : Stk} {ops : Nat} (h : rM z th sz S A ops) (hl : S.length + A.length ≤ 200) (s1 s2 s3 s4 s5 s6 s7 s8 s9 s10 s11 s12 s13 s14 s15 s16 s17 s18 s19 s20 s21 s22 s23 s24 s25 mg : Nat → Int32) : ok (bnd ((z 9).toInt64) fun v38 => bd3 (x_M_pushNumber fu v38 z th sz) fun f39 f40 f41 => some ((1 : Int32), f39, s1, s2, s3, s4, s5, s6, s7, s8, s9, s10, s11, s12, s13, s14, s15, s16, s17, s18, s19, s20, s21, s22, s23, s24, s25, f40, f41, mg)) (op30 (opS sg hsF 116 S A ops) z) := by
  rw [h.1.1]
  refine ok_bnd (ok_bd3 (v_pushN fu (by omega) (v := (S.length : Int)) (by rw [iL (by omega), lN_I (by omega)]) (by omega) (d := S.length) (by omega) h.1.1 h.2.2.2.1) (fun f1 f2 f3 w => ok_some ?_))
  obtain ⟨w1, w2⟩ := w
  replace w1 : f1 = upd z 9 (nI (S.length + 1)) := w1
  subst w1
  exact opQ_1 rfl (zf_9 _) (rM_w (z' := upd z 9 (nI (S.length + 1))) h h.2.1 (by omega) w2 pk_us (pk_un (by decide)) (pk_un (by decide)))
set_option maxHeartbeats 400000 in
theorem l_d117 (fu : Nat) (hfu : 1600 ≤ fu) (sg : List Int32 → List Int32 → Bool) {z th sz : Nat → Int32} {S A : Stk} {ops : Nat} (h : rM z th sz S A ops) (hl : S.length + A.length ≤ 200) (s1 s2 s3 s4 s5 s6 s7 s8 s9 s10 s11 s12 s13 s14 s15 s16 s17 s18 s19 s20 s21 s22 s23 s24 s25 mg : Nat → Int32) : ok (bd1 (x_M_has fu z (1 : Int32)) fun v42 => if v42 = 0 then (some ((0 : Int32), z, s1, s2, s3, s4, s5, s6, s7, s8, s9, s10, s11, s12, s13, s14, s15, s16, s17, s18, s19, s20, s21, s22, s23, s24, s25, th, sz, mg)) else (bnd ((z 9) - (1 : Int32)) fun v43 => bnd (upd z 9 v43) fun z44 => some ((1 : Int32), z44, s1, s2, s3, s4, s5, s6, s7, s8, s9, s10, s11, s12, s13, s14, s15, s16, s17, s18, s19, s20, s21, s22, s23, s24, s25, th, sz, mg))) (op30 (opS sg hsF 117 S A ops) z) := by
  refine ok_bd1 (v_has fu z (n := 1) (by omega) (by decide) h.1.1) (fun v hv => ok_tf hv (fun q => ok_some ?_) (fun q => ?_))
  · have e : S = [] := List.eq_nil_of_length_eq_zero (by omega)
    subst e
    exact opQ_0 rfl (zf_r _) h.2.2.2.1
  cases S with
  | nil => exact absurd q (by decide)
  | cons x S =>
    replace hl : S.length + 1 + A.length ≤ 200 := hl
    have h9 : z 9 = nI (S.length + 1) := h.1.1
    have s0 := h.2.1.1
    rw [Nat.zero_add] at s0
    have hS := h.2.1.2
    have e9 : nI (S.length + 1) - (1 : Int32) = nI S.length := nI_sb (b := 1) (by omega)
    rw [h9, e9]
    exact ok_bnd (ok_bnd (ok_some (opQ_1 rfl (zf_9 _) (rM_d (z' := upd z 9 (nI S.length)) h hS (by omega) pk_us (pk_un (by decide)) (pk_un (by decide))))))
set_option maxHeartbeats 400000 in
theorem l_d118 (fu : Nat) (hfu : 1600 ≤ fu) (sg : List Int32 → List Int32 → Bool) {z th sz : Nat → Int32} {S A : Stk} {ops : Nat} (h : rM z th sz S A ops) (hl : S.length + A.length ≤ 200) (s1 s2 s3 s4 s5 s6 s7 s8 s9 s10 s11 s12 s13 s14 s15 s16 s17 s18 s19 s20 s21 s22 s23 s24 s25 mg : Nat → Int32) : ok (bd4 (x_M_again fu (1 : Int32) z th sz) fun v45 f46 f47 f48 => gd (isb v45) <| some (v45, f46, s1, s2, s3, s4, s5, s6, s7, s8, s9, s10, s11, s12, s13, s14, s15, s16, s17, s18, s19, s20, s21, s22, s23, s24, s25, f47, f48, mg)) (op30 (opS sg hsF 118 S A ops) z) := by
  rw [show (1 : Int32) = nI 1 from rfl]
  refine ok_bd4 (v_again fu (k := 1) h (by omega) (by decide) (by decide)) (fun v f1 f2 f3 hq => ok_gd (opQ_isb hq) (ok_some ?_))
  replace hq : opQ (if 1 ≤ S.length then some (S.getD (1 - 1) [] :: S, A, ops) else none) z v f1 f2 f3 := hq
  match S, hq with
  | [], hq => exact hq
  | x :: S, hq =>
    rw [if_pos (show 1 ≤ (x :: S).length from Nat.le_add_left 1 S.length)] at hq
    exact hq
set_option maxHeartbeats 400000 in
theorem l_d119 (fu : Nat) (hfu : 1600 ≤ fu) (sg : List Int32 → List Int32 → Bool) {z th sz : Nat → Int32} {S A : Stk} {ops : Nat} (h : rM z th sz S A ops) (hl : S.length + A.length ≤ 200) (s1 s2 s3 s4 s5 s6 s7 s8 s9 s10 s11 s12 s13 s14 s15 s16 s17 s18 s19 s20 s21 s22 s23 s24 s25 mg : Nat → Int32) : ok (bd1 (x_M_has fu z (2 : Int32)) fun v49 => if v49 = 0 then (some ((0 : Int32), z, s1, s2, s3, s4, s5, s6, s7, s8, s9, s10, s11, s12, s13, s14, s15, s16, s17, s18, s19, s20, s21, s22, s23, s24, s25, th, sz, mg)) else (bd4 (x_M_takes fu (2 : Int32) (0 : Int32) z th sz) fun v50 f51 f52 f53 => if v50 = 0 then (some ((0 : Int32), f51, s1, s2, s3, s4, s5, s6, s7, s8, s9, s10, s11, s12, s13, s14, s15, s16, s17, s18, s19, s20, s21, s22, s23, s24, s25, f52, f53, mg)) else (some ((1 : Int32), f51, s1, s2, s3, s4, s5, s6, s7, s8, s9, s10, s11, s12, s13, s14, s15, s16, s17, s18, s19, s20, s21, s22, s23, s24, s25, f52, f53, mg)))) (op30 (opS sg hsF 119 S A ops) z) := by
  refine ok_bd1 (v_has fu z (n := 2) (by omega) (by decide) h.1.1) (fun v hv => ok_tf hv (fun q => ok_some ?_) (fun q => ?_))
  · match S, q, h with
    | [], q, h => exact opQ_0 rfl (zf_r _) h.2.2.2.1
    | [x], q, h => exact opQ_0 rfl (zf_r _) h.2.2.2.1
    | x :: y :: S, q, h => exact absurd (show 2 ≤ S.length + 1 + 1 by omega) q
  match S, q, h, hl with
  | [], q, h, hl => exact absurd q (by decide)
  | [x], q, h, hl => exact absurd (show 2 ≤ 1 from q) (by decide)
  | x :: y :: S, q, h, hl =>
    replace hl : S.length + 1 + 1 + A.length ≤ 200 := hl
    have h9 : z 9 = nI (S.length + 2) := h.1.1
    have s0 := h.2.1.1
    have s1 := h.2.1.2.1
    rw [Nat.zero_add] at s0 s1
    replace s0 : sl th sz (S.length + 1) x := s0
    have hS := h.2.1.2.2
    have e9 : nI (S.length + 2) - (1 : Int32) = nI (S.length + 1) := nI_sb (b := 1) (by omega)
    have e92 : nI (S.length + 2) - (2 : Int32) = nI S.length := nI_sb (b := 2) (by omega)
    rw [show (2 : Int32) = nI ([x].length + 1) from rfl]
    refine ok_bd4 (v_takes fu (by omega) (X := [x]) (y := y) (R := S) (a2 := 0) h) (fun v f1 f2 f3 hq => ?_)
    obtain ⟨g1, g2, g3⟩ := hq
    replace g1 : v = 1 := g1
    exact ok_f (by rw [g1]; decide) (ok_some (opQ_1 rfl g2 g3))
set_option maxHeartbeats 400000 in
theorem l_d120 (fu : Nat) (hfu : 1600 ≤ fu) (sg : List Int32 → List Int32 → Bool) {z th sz : Nat → Int32} {S A : Stk} {ops : Nat} (h : rM z th sz S A ops) (hl : S.length + A.length ≤ 200) (s1 s2 s3 s4 s5 s6 s7 s8 s9 s10 s11 s12 s13 s14 s15 s16 s17 s18 s19 s20 s21 s22 s23 s24 s25 mg : Nat → Int32) : ok (bd4 (x_M_again fu (2 : Int32) z th sz) fun v54 f55 f56 f57 => gd (isb v54) <| some (v54, f55, s1, s2, s3, s4, s5, s6, s7, s8, s9, s10, s11, s12, s13, s14, s15, s16, s17, s18, s19, s20, s21, s22, s23, s24, s25, f56, f57, mg)) (op30 (opS sg hsF 120 S A ops) z) := by
  rw [show (2 : Int32) = nI 2 from rfl]
  refine ok_bd4 (v_again fu (k := 2) h (by omega) (by decide) (by decide)) (fun v f1 f2 f3 hq => ok_gd (opQ_isb hq) (ok_some ?_))
  replace hq : opQ (if 2 ≤ S.length then some (S.getD (2 - 1) [] :: S, A, ops) else none) z v f1 f2 f3 := hq
  match S, hq with
  | [], hq => exact hq
  | [x], hq => exact hq
  | x :: y :: S, hq =>
    rw [if_pos (show 2 ≤ (x :: y :: S).length from Nat.le_add_left 2 S.length)] at hq
    exact hq
set_option maxHeartbeats 400000 in
theorem l_d123 (fu : Nat) (hfu : 1600 ≤ fu) (sg : List Int32 → List Int32 → Bool) {z th sz : Nat → Int32} {S A : Stk} {ops : Nat} (h : rM z th sz S A ops) (hl : S.length + A.length ≤ 200) (s1 s2 s3 s4 s5 s6 s7 s8 s9 s10 s11 s12 s13 s14 s15 s16 s17 s18 s19 s20 s21 s22 s23 s24 s25 mg : Nat → Int32) : ok (bd1 (x_M_has fu z (3 : Int32)) fun v58 => if v58 = 0 then (some ((0 : Int32), z, s1, s2, s3, s4, s5, s6, s7, s8, s9, s10, s11, s12, s13, s14, s15, s16, s17, s18, s19, s20, s21, s22, s23, s24, s25, th, sz, mg)) else (bd4 (x_M_takes fu (3 : Int32) (1 : Int32) z th sz) fun v59 f60 f61 f62 => if v59 = 0 then (some ((0 : Int32), f60, s1, s2, s3, s4, s5, s6, s7, s8, s9, s10, s11, s12, s13, s14, s15, s16, s17, s18, s19, s20, s21, s22, s23, s24, s25, f61, f62, mg)) else (some ((1 : Int32), f60, s1, s2, s3, s4, s5, s6, s7, s8, s9, s10, s11, s12, s13, s14, s15, s16, s17, s18, s19, s20, s21, s22, s23, s24, s25, f61, f62, mg)))) (op30 (opS sg hsF 123 S A ops) z) := by
  refine ok_bd1 (v_has fu z (n := 3) (by omega) (by decide) h.1.1) (fun v hv => ok_tf hv (fun q => ok_some ?_) (fun q => ?_))
  · match S, q, h with
    | [], q, h => exact opQ_0 rfl (zf_r _) h.2.2.2.1
    | [x], q, h => exact opQ_0 rfl (zf_r _) h.2.2.2.1
    | [x, y], q, h => exact opQ_0 rfl (zf_r _) h.2.2.2.1
    | x :: y :: w :: S, q, h => exact absurd (show 3 ≤ S.length + 1 + 1 + 1 by omega) q
  match S, q, h, hl with
  | [], q, h, hl => exact absurd q (by decide)
  | [x], q, h, hl => exact absurd (show 3 ≤ 1 from q) (by decide)
  | [x, y], q, h, hl => exact absurd (show 3 ≤ 2 from q) (by decide)
  | x :: y :: w :: S, q, h, hl =>
    rw [show (3 : Int32) = nI ([x, y].length + 1) from rfl]
    refine ok_bd4 (v_takes fu (by omega) (X := [x, y]) (y := w) (R := S) (a2 := 1) h) (fun v f1 f2 f3 hq => ?_)
    obtain ⟨g1, g2, g3⟩ := hq
    replace g1 : v = 1 := g1
    exact ok_f (by rw [g1]; decide) (ok_some (opQ_1 rfl g2 g3))
set_option maxHeartbeats 400000 in
theorem l_d124 (fu : Nat) (hfu : 1600 ≤ fu) (sg : List Int32 → List Int32 → Bool) {z th sz : Nat → Int32} {S A : Stk} {ops : Nat} (h : rM z th sz S A ops) (hl : S.length + A.length ≤ 200) (s1 s2 s3 s4 s5 s6 s7 s8 s9 s10 s11 s12 s13 s14 s15 s16 s17 s18 s19 s20 s21 s22 s23 s24 s25 mg : Nat → Int32) : ok (bd1 (x_M_has fu z (2 : Int32)) fun v63 => if v63 = 0 then (some ((0 : Int32), z, s1, s2, s3, s4, s5, s6, s7, s8, s9, s10, s11, s12, s13, s14, s15, s16, s17, s18, s19, s20, s21, s22, s23, s24, s25, th, sz, mg)) else (bd4 (x_M_takes fu (2 : Int32) (1 : Int32) z th sz) fun v64 f65 f66 f67 => if v64 = 0 then (some ((0 : Int32), f65, s1, s2, s3, s4, s5, s6, s7, s8, s9, s10, s11, s12, s13, s14, s15, s16, s17, s18, s19, s20, s21, s22, s23, s24, s25, f66, f67, mg)) else (some ((1 : Int32), f65, s1, s2, s3, s4, s5, s6, s7, s8, s9, s10, s11, s12, s13, s14, s15, s16, s17, s18, s19, s20, s21, s22, s23, s24, s25, f66, f67, mg)))) (op30 (opS sg hsF 124 S A ops) z) := by
  refine ok_bd1 (v_has fu z (n := 2) (by omega) (by decide) h.1.1) (fun v hv => ok_tf hv (fun q => ok_some ?_) (fun q => ?_))
  · match S, q, h with
    | [], q, h => exact opQ_0 rfl (zf_r _) h.2.2.2.1
    | [x], q, h => exact opQ_0 rfl (zf_r _) h.2.2.2.1
    | x :: y :: S, q, h => exact absurd (show 2 ≤ S.length + 1 + 1 by omega) q
  match S, q, h, hl with
  | [], q, h, hl => exact absurd q (by decide)
  | [x], q, h, hl => exact absurd (show 2 ≤ 1 from q) (by decide)
  | x :: y :: S, q, h, hl =>
    replace hl : S.length + 1 + 1 + A.length ≤ 200 := hl
    have h9 : z 9 = nI (S.length + 2) := h.1.1
    have s0 := h.2.1.1
    have s1 := h.2.1.2.1
    rw [Nat.zero_add] at s0 s1
    replace s0 : sl th sz (S.length + 1) x := s0
    have hS := h.2.1.2.2
    have e9 : nI (S.length + 2) - (1 : Int32) = nI (S.length + 1) := nI_sb (b := 1) (by omega)
    have e92 : nI (S.length + 2) - (2 : Int32) = nI S.length := nI_sb (b := 2) (by omega)
    rw [show (2 : Int32) = nI ([x].length + 1) from rfl]
    refine ok_bd4 (v_takes fu (by omega) (X := [x]) (y := y) (R := S) (a2 := 1) h) (fun v f1 f2 f3 hq => ?_)
    obtain ⟨g1, g2, g3⟩ := hq
    replace g1 : v = 1 := g1
    exact ok_f (by rw [g1]; decide) (ok_some (opQ_1 rfl g2 g3))
set_option maxHeartbeats 400000 in
theorem l_d125 (fu : Nat) (hfu : 1600 ≤ fu) (sg : List Int32 → List Int32 → Bool) {z th sz : Nat → Int32} {S A : Stk} {ops : Nat} (h : rM z th sz S A ops) (hl : S.length + A.length ≤ 200) (s1 s2 s3 s4 s5 s6 s7 s8 s9 s10 s11 s12 s13 s14 s15 s16 s17 s18 s19 s20 s21 s22 s23 s24 s25 mg : Nat → Int32) : ok (bd1 (x_M_has fu z (2 : Int32)) fun v68 => if v68 = 0 then (some ((0 : Int32), z, s1, s2, s3, s4, s5, s6, s7, s8, s9, s10, s11, s12, s13, s14, s15, s16, s17, s18, s19, s20, s21, s22, s23, s24, s25, th, sz, mg)) else (bnd ((z 9) - (1 : Int32)) fun v69 => bd2 (x_M_move fu z v69 (z 9) th sz) fun f70 f71 => bnd ((z 9) - (2 : Int32)) fun v72 => bnd ((z 9) - (1 : Int32)) fun v73 => bd2 (x_M_move fu z v72 v73 f70 f71) fun f74 f75 => bnd ((z 9) - (2 : Int32)) fun v76 => bd2 (x_M_move fu z (z 9) v76 f74 f75) fun f77 f78 => bnd ((z 9) + (1 : Int32)) fun v79 => bnd (upd z 9 v79) fun z80 => some ((1 : Int32), z80, s1, s2, s3, s4, s5, s6, s7, s8, s9, s10, s11, s12, s13, s14, s15, s16, s17, s18, s19, s20, s21, s22, s23, s24, s25, f77, f78, mg))) (op30 (opS sg hsF 125 S A ops) z) := by
  refine ok_bd1 (v_has fu z (n := 2) (by omega) (by decide) h.1.1) (fun v hv => ok_tf hv (fun q => ok_some ?_) (fun q => ?_))
  · match S, q, h with
    | [], q, h => exact opQ_0 rfl (zf_r _) h.2.2.2.1
    | [x], q, h => exact opQ_0 rfl (zf_r _) h.2.2.2.1
    | x :: y :: S, q, h => exact absurd (show 2 ≤ S.length + 1 + 1 by omega) q
  match S, q, h, hl with
  | [], q, h, hl => exact absurd q (by decide)
  | [x], q, h, hl => exact absurd (show 2 ≤ 1 from q) (by decide)
  | x :: y :: S, q, h, hl =>
    replace hl : S.length + 1 + 1 + A.length ≤ 200 := hl
    have h9 : z 9 = nI (S.length + 2) := h.1.1
    have s0 := h.2.1.1
    have s1 := h.2.1.2.1
    rw [Nat.zero_add] at s0 s1
    replace s0 : sl th sz (S.length + 1) x := s0
    have hS := h.2.1.2.2
    have e9 : nI (S.length + 2) - (1 : Int32) = nI (S.length + 1) := nI_sb (b := 1) (by omega)
    have e92 : nI (S.length + 2) - (2 : Int32) = nI S.length := nI_sb (b := 2) (by omega)
    rw [h9, e9, e92]
    have hT := h.2.2.2.1
    refine ok_bnd (ok_bd2 (v_move fu z th sz hT (t := S.length + 2) (by omega) (by omega) s0) (fun f1 f2 w => ok_bnd (ok_bnd ?_)))
    replace w : wS th sz (S.length + 2) x f1 f2 := w
    obtain ⟨w1, w2, w3, w4⟩ := w
    have a1 : sl f1 f2 S.length y := sl_k s1 (fun j a b => w2 j (by omega)) (w3 _ (by omega))
    refine ok_bd2 (v_move fu z f1 f2 w4 (t := S.length + 1) (by omega) (by omega) a1) (fun f3 f4 w => ok_bnd ?_)
    replace w : wS f1 f2 (S.length + 1) y f3 f4 := w
    obtain ⟨x1, x2, x3, x4⟩ := w
    have a2 : sl f3 f4 (S.length + 2) x := sl_k w1 (fun j a b => x2 j (by omega)) (x3 _ (by omega))
    refine ok_bd2 (v_move fu z f3 f4 x4 (t := S.length) (by omega) (by omega) a2) (fun f5 f6 w => ok_bn (nI_1 _) (ok_bnd (ok_some ?_)))
    replace w : wS f3 f4 S.length x f5 f6 := w
    obtain ⟨y1, y2, y3, y4⟩ := w
    have b1 : sl f5 f6 (S.length + 1) y := sl_k x1 (fun j a b => y2 j (by omega)) (y3 _ (by omega))
    have b2 : sl f5 f6 (S.length + 2) x := sl_k a2 (fun j a b => y2 j (by omega)) (y3 _ (by omega))
    have bS : stU f5 f6 0 S := stU_k hS (fun j a b => by rw [y2 j (by omega), x2 j (by omega), w2 j (by omega)]) (fun k a b => by rw [y3 k (by omega), x3 k (by omega), w3 k (by omega)])
    have bA : stA f5 f6 A := stA_k h.2.2.1 (by omega) (fun j a b => by rw [y2 j (by omega), x2 j (by omega), w2 j (by omega)]) (fun k a b => by rw [y3 k (by omega), x3 k (by omega), w3 k (by omega)])
    refine opQ_1 rfl (zf_9 _) ⟨⟨pk_us, by rw [pk_un (by decide)]; exact h.1.2.1, by rw [pk_un (by decide)]; exact h.1.2.2⟩, ⟨?_, ?_, ?_, bS⟩, bA, y4, by show S.length + 1 + 1 + 1 + A.length ≤ 202; omega, h.2.2.2.2.2⟩
    · rw [Nat.zero_add]; exact b2
    · rw [Nat.zero_add]; exact b1
    · rw [Nat.zero_add]; exact y1
set_option maxHeartbeats 400000 in
theorem l_d130 (fu : Nat) (hfu : 1600 ≤ fu) (sg : List Int32 → List Int32 → Bool) {z th sz : Nat → Int32} {S A : Stk} {ops : Nat} (h : rM z th sz S A ops) (hl : S.length + A.length ≤ 200) (s1 s2 s3 s4 s5 s6 s7 s8 s9 s10 s11 s12 s13 s14 s15 s16 s17 s18 s19 s20 s21 s22 s23 s24 s25 mg : Nat → Int32) : ok (bd1 (x_M_has fu z (1 : Int32)) fun v81 => if v81 = 0 then (some ((0 : Int32), z, s1, s2, s3, s4, s5, s6, s7, s8, s9, s10, s11, s12, s13, s14, s15, s16, s17, s18, s19, s20, s21, s22, s23, s24, s25, th, sz, mg)) else (bnd ((z 9) - (1 : Int32)) fun v82 => gd (inb v82 408) <| bnd (sz v82.toNatClampNeg) fun v83 => bnd (v83.toInt64) fun v84 => bd3 (x_M_pushNumber fu v84 z th sz) fun f85 f86 f87 => some ((1 : Int32), f85, s1, s2, s3, s4, s5, s6, s7, s8, s9, s10, s11, s12, s13, s14, s15, s16, s17, s18, s19, s20, s21, s22, s23, s24, s25, f86, f87, mg))) (op30 (opS sg hsF 130 S A ops) z) := by
  refine ok_bd1 (v_has fu z (n := 1) (by omega) (by decide) h.1.1) (fun v hv => ok_tf hv (fun q => ok_some ?_) (fun q => ?_))
  · have e : S = [] := List.eq_nil_of_length_eq_zero (by omega)
    subst e
    exact opQ_0 rfl (zf_r _) h.2.2.2.1
  cases S with
  | nil => exact absurd q (by decide)
  | cons x S =>
    replace hl : S.length + 1 + A.length ≤ 200 := hl
    have h9 : z 9 = nI (S.length + 1) := h.1.1
    have s0 := h.2.1.1
    rw [Nat.zero_add] at s0
    have hS := h.2.1.2
    have e9 : nI (S.length + 1) - (1 : Int32) = nI S.length := nI_sb (b := 1) (by omega)
    rw [h9, e9]
    obtain ⟨t1, t2, t3⟩ := s0
    refine ok_bnd (ok_gd (inb_nI (by omega) (by decide)) (ok_bn (by rw [nI_clamp (n := S.length) (by omega), t1]) (ok_bnd (ok_bd3 (v_pushN fu (by omega) (v := (x.length : Int)) (by rw [iL (by omega), lN_I (by omega)]) (by omega) (d := S.length + 1) (by omega) h9 h.2.2.2.1) (fun f1 f2 f3 w => ok_some ?_)))))
    obtain ⟨w1, w2⟩ := w
    replace w1 : f1 = upd z 9 (nI (S.length + 1 + 1)) := w1
    subst w1
    exact opQ_1 rfl (zf_9 _) (rM_w (S := x :: S) (z' := upd z 9 (nI (S.length + 1 + 1))) h h.2.1 (by show S.length + 1 + 1 + A.length ≤ 202; omega) w2 pk_us (pk_un (by decide)) (pk_un (by decide)))
