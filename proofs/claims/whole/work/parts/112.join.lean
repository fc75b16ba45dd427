set_option maxHeartbeats 200000 in
theorem ea_f1 {F : Type} [Lean.Grind.Field F] [DecidableEq F] {x1 y1 x2 y2 l : F} (hx : x1 ≠ x2) (h : l * (x2 - x1) = y2 - y1) : ea (some (x1, y1)) (some (x2, y2)) = some (l * l - x1 - x2, l * (x1 - (l * l - x1 - x2)) - y1) := by
  have e : slo x1 y1 x2 y2 = l := by
    unfold slo
    rw [if_neg hx, ← h]
    have hd : x2 - x1 ≠ 0 := fun e => hx (by grind)
    grind
  refine Eq.trans (if_neg (fun g => hx g.1)) ?_
  show some (slo x1 y1 x2 y2 * slo x1 y1 x2 y2 - x1 - x2, slo x1 y1 x2 y2 * (x1 - (slo x1 y1 x2 y2 * slo x1 y1 x2 y2 - x1 - x2)) - y1) = _
  rw [e]
set_option maxHeartbeats 200000 in
theorem ea_f2 {F : Type} [Lean.Grind.Field F] [DecidableEq F] {x1 y1 l : F} (hy : y1 + y1 ≠ 0) (h : l * (y1 + y1) = x1 * x1 + x1 * x1 + x1 * x1) : ea (some (x1, y1)) (some (x1, y1)) = some (l * l - x1 - x1, l * (x1 - (l * l - x1 - x1)) - y1) := by
  have e : slo x1 y1 x1 y1 = l := by
    unfold slo
    rw [if_pos rfl, ← h]
    grind
  refine Eq.trans (if_neg (fun g => hy (by have g2 : y1 = -y1 := g.2; grind))) ?_
  show some (slo x1 y1 x1 y1 * slo x1 y1 x1 y1 - x1 - x1, slo x1 y1 x1 y1 * (x1 - (slo x1 y1 x1 y1 * slo x1 y1 x1 y1 - x1 - x1)) - y1) = _
  rw [e]
set_option maxHeartbeats 200000 in
theorem pP_0 : 0 < pP := Nat.lt_trans (by decide) pP_7
def pt {F : Type} (c : Int → F) (z x y : Nat → Int32) : Option (F × F) := if z 8 = 0 then some (c ((V x 8 : Nat) : Int), c ((V y 8 : Nat) : Int)) else none
def jQ {F : Type} (c : Int → F) (z : Nat → Int32) (R : Option (F × F)) (r : (Nat → Int32) × (Nat → Int32) × (Nat → Int32) × (Nat → Int32) × (Nat → Int32) × (Nat → Int32) × (Nat → Int32) × (Nat → Int32) × (Nat → Int32) × (Nat → Int32) × (Nat → Int32) × (Nat → Int32)) : Prop :=
  (∀ j, j ≠ 8 → r.1 j = z j) ∧ (r.1 8 = 0 ∨ r.1 8 = 1) ∧ V r.2.2.2.2.2.2.2.2.1 8 < pP ∧ V r.2.2.2.2.2.2.2.2.2.1 8 < pP ∧ pt c r.1 r.2.2.2.2.2.2.2.2.1 r.2.2.2.2.2.2.2.2.2.1 = R
set_option maxHeartbeats 200000 in
theorem cvt {F : Type} [Lean.Grind.Field F] {c : Int → F} (hc : cH pP c) {a b n : Nat} (e : n = a * b % pP) : c (n : Int) = c (a : Int) * c (b : Int) ∧ n < pP := by
  rw [e, c_tm hc]; exact ⟨rfl, Nat.mod_lt _ pP_0⟩
set_option maxHeartbeats 200000 in
theorem cvp {F : Type} [Lean.Grind.Field F] {c : Int → F} (hc : cH pP c) {a b n : Nat} (e : n = (a + b) % pP) : c (n : Int) = c (a : Int) + c (b : Int) ∧ n < pP := by
  rw [e, c_pl hc]; exact ⟨rfl, Nat.mod_lt _ pP_0⟩
set_option maxHeartbeats 200000 in
theorem cvm {F : Type} [Lean.Grind.Field F] {c : Int → F} (hc : cH pP c) {a b n : Nat} (hb : b < pP) (e : n = (a + (pP - b)) % pP) : c (n : Int) = c (a : Int) - c (b : Int) ∧ n < pP := by
  rw [e, c_mn hc hb]; exact ⟨rfl, Nat.mod_lt _ pP_0⟩
set_option maxHeartbeats 200000 in
theorem V_24 : V k24 8 < pP := by decide +kernel
set_option maxHeartbeats 200000 in
theorem V_25 : V k25 8 < pP := by decide +kernel
set_option maxHeartbeats 200000 in
theorem f257 {fu : Nat} (h : 2 ^ 257 ≤ fu) : 9 ≤ fu ∧ 17 ≤ fu := ⟨Nat.le_trans (by decide) h, Nat.le_trans (by decide) h⟩
set_option maxHeartbeats 200000 in
theorem jm {F : Type} [Lean.Grind.Field F] {s3 i6 s6 s5 l : F} (h1 : i6 * s6 = 1) (h2 : s3 = s5 * i6) (hl : l * s6 = s5) : s3 = l := by grind
set_option maxHeartbeats 400000 in
theorem j_join_185 {F : Type} [Lean.Grind.Field F] [DecidableEq F] {c : Int → F} (hc : cH pP c) (fu : Nat) (hfu : 2 ^ 257 ≤ fu) (h1 h2 : Nat → Int32) (x4 : Int32) (u0 u1 u2 u3 u4 u5 u6 u7 u8 u9 u10 u11 : Nat → Int32) (hA : V h1 8 < pP) (hB : V h2 8 < pP) (g5 : V u5 8 < pP) (g6 : V u6 8 < pP) (g60 : 1 ≤ V u6 8) (g8 : V u8 8 < pP) (g9 : V u9 8 < pP) (hz : u0 8 = 0) (l : F) (hl : l * c ((V u6 8 : Nat) : Int) = c ((V u5 8 : Nat) : Int)) (X2 : F) (hX : X2 = if x4 = 0 then c ((V h1 8 : Nat) : Int) else c ((V u8 8 : Nat) : Int)) :
    ok (xb_M_join_185 fu h1 h2 x4 u0 u1 u2 u3 u4 u5 u6 u7 u8 u9 u10 u11) (jQ c u0 (some (l * l - c ((V u8 8 : Nat) : Int) - X2, l * (c ((V u8 8 : Nat) : Int) - (l * l - c ((V u8 8 : Nat) : Int) - X2)) - c ((V u9 8 : Nat) : Int)))) := by
  obtain ⟨h9, h17⟩ := f257 hfu
  unfold xb_M_join_185
  refine ok_bd5 (v_M_inverse_s3x22 fu hfu u0 u6 u1 u2 u10 u11 u7 g60 (pr_c pP_pr g60 g6)) (fun f1 f2 f3 f4 f5 q5 => ?_)
  have i5 := c_iv hc q5
  refine ok_bd2 (v_M_times fu h17 u0 u5 f5 u3 u4) (fun f6 f7 q7 => ?_)
  replace q7 := cvt hc q7
  refine ok_bd2 (v_M_times_e32 fu h17 u0 f7 f6 u5) (fun f8 f9 q9 => ?_)
  replace q9 := cvt hc q9
  refine ok_bd1 (v_M_minus_e10 fu h9 u8 f9 q9.2 g8) (fun f10 q10 => ?_)
  replace q10 := cvm hc g8 q10
  have key : ∀ (f11 : Nat → Int32), c ((V f11 8 : Nat) : Int) = c ((V f10 8 : Nat) : Int) - X2 → V f11 8 < pP → ok (bd1 (x_M_minus fu u8 f11 u6) fun f12 => bd2 (x_M_times_e21 fu u0 f7 f8 f12) fun f13 f14 => bd1 (x_M_minus_e20 fu f14 u9) fun f15 => bd1 (x_M_copy fu f11 u8) fun f16 => some (u0, f1, f2, f13, f7, f11, f14, f5, f16, f15, f3, f4)) (jQ c u0 (some (l * l - c ((V u8 8 : Nat) : Int) - X2, l * (c ((V u8 8 : Nat) : Int) - (l * l - c ((V u8 8 : Nat) : Int) - X2)) - c ((V u9 8 : Nat) : Int)))) := by
    intro f11 e11 l11
    refine ok_bd1 (v_M_minus fu h9 u8 f11 u6 g8 l11) (fun f12 q12 => ?_)
    replace q12 := cvm hc l11 q12
    refine ok_bd2 (v_M_times_e21 fu h17 u0 f7 f8 f12) (fun f13 f14 q14 => ?_)
    replace q14 := cvt hc q14
    refine ok_bd1 (v_M_minus_e20 fu h9 f14 u9 q14.2 g9) (fun f15 q15 => ?_)
    replace q15 := cvm hc g9 q15
    refine ok_bd1 (v_M_copy fu f11 u8) (fun f16 q16 => ?_)
    refine ok_some ⟨fun j _ => rfl, Or.inl hz, ?_, q15.2, ?_⟩
    · show V f16 8 < pP
      rw [V_c q16]; exact l11
    · show (if u0 8 = 0 then some (c ((V f16 8 : Nat) : Int), c ((V f15 8 : Nat) : Int)) else none) = _
      rw [if_pos hz, V_c q16]
      have el := jm i5 q7.1 hl
      have r1 := q9.1
      have r2 := q10.1
      have r3 := q12.1
      have r4 := q14.1
      have r5 := q15.1
      rw [el] at r1 r4
      rw [r1] at r2
      rw [r2] at e11
      rw [e11] at r3 ⊢
      rw [r3] at r4
      rw [r4] at r5
      rw [r5]
      congr 2
      grind
  by_cases h4 : x4 = 0
  · rw [if_pos h4] at hX ⊢
    refine ok_bd1 (v_M_minus_e10 fu h9 h1 f10 q10.2 hA) (fun f11 q11 => ?_)
    replace q11 := cvm hc hA q11
    exact key f11 (by rw [q11.1, hX]) q11.2
  · rw [if_neg h4] at hX ⊢
    refine ok_bd1 (v_M_minus_e10 fu h9 u8 f10 q10.2 g8) (fun f11 q11 => ?_)
    replace q11 := cvm hc g8 q11
    exact key f11 (by rw [q11.1, hX]) q11.2
set_option maxHeartbeats 200000 in
theorem j_join_86 {F : Type} [Lean.Grind.Field F] [DecidableEq F] {c : Int → F} (fu : Nat) (h1 h2 : Nat → Int32) (u0 u1 u2 u3 u4 u5 u6 u7 u8 u9 u10 u11 : Nat → Int32) (g8 : V u8 8 < pP) (g9 : V u9 8 < pP) : ok (xb_M_join_86 fu h1 h2 u0 u1 u2 u3 u4 u5 u6 u7 u8 u9 u10 u11) (jQ c u0 none) := by
  unfold xb_M_join_86
  refine ok_bnd (ok_some ⟨fun j hj => pk_un hj, Or.inr (show upd u0 8 (1 : Int32) 8 = 1 from pk_us), g8, g9, ?_⟩)
  show (if upd u0 8 1 8 = 0 then _ else none) = none
  rw [pk_us, if_neg one_ne]
set_option maxHeartbeats 400000 in
theorem j_join {F : Type} [Lean.Grind.Field F] [DecidableEq F] {c : Int → F} (hc : cH pP c) (fu : Nat) (hfu : 2 ^ 257 ≤ fu) (h1 h2 : Nat → Int32) (a3 : Int32) (u0 u1 u2 u3 u4 u5 u6 u7 u8 u9 u10 u11 : Nat → Int32) (hA : V h1 8 < pP) (hB : V h2 8 < pP) (g8 : V u8 8 < pP) (g9 : V u9 8 < pP) (hz : u0 8 = 0 ∨ u0 8 = 1)
    (hR : onC (c 7) (pt c u0 u8 u9)) (hQ : onC (c 7) (some (c ((V h1 8 : Nat) : Int), c ((V h2 8 : Nat) : Int)))) (hs : a3 ≠ 0 → u0 8 = 0 ∧ V u8 8 = V h1 8 ∧ V u9 8 = V h2 8) (hd : a3 = 0 → u0 8 = 0 → ¬ (V u8 8 = V h1 8 ∧ V u9 8 = V h2 8)) :
    ok (x_M_join fu h1 h2 a3 u0 u1 u2 u3 u4 u5 u6 u7 u8 u9 u10 u11) (jQ c u0 (ea (pt c u0 u8 u9) (some (c ((V h1 8 : Nat) : Int), c ((V h2 8 : Nat) : Int))))) := by
  obtain ⟨h9, h17⟩ := f257 hfu
  unfold x_M_join
  rcases hz with hz | hz
  · rw [if_pos hz]
    have ep : pt c u0 u8 u9 = some (c ((V u8 8 : Nat) : Int), c ((V u9 8 : Nat) : Int)) := if_pos hz
    rw [ep] at hR ⊢
    by_cases h3 : a3 = 0
    · rw [if_pos h3, v_M_compare fu h9 u8 h1, bd1_q]
      have hd' := hd h3 hz
      by_cases hx : V u8 8 = V h1 8
      · rw [if_pos ((cmpN_eq _ _).mpr hx)]
        unfold xb_M_join_49 xb_M_join_54
        rw [if_neg one_ne, if_pos h3, v_M_compare fu h9 u9 h2, bd1_q, if_neg (fun g => hd' ⟨hx, (cmpN_eq _ _).mp g⟩)]
        have hn : ea (some (c ((V u8 8 : Nat) : Int), c ((V u9 8 : Nat) : Int))) (some (c ((V h1 8 : Nat) : Int), c ((V h2 8 : Nat) : Int))) = none := by
          refine ea_0 ⟨by rw [hx], ?_⟩
          have k1 : c ((V u9 8 : Nat) : Int) * c ((V u9 8 : Nat) : Int) = c ((V u8 8 : Nat) : Int) * c ((V u8 8 : Nat) : Int) * c ((V u8 8 : Nat) : Int) + c 7 := hR
          have k2 : c ((V h2 8 : Nat) : Int) * c ((V h2 8 : Nat) : Int) = c ((V h1 8 : Nat) : Int) * c ((V h1 8 : Nat) : Int) * c ((V h1 8 : Nat) : Int) + c 7 := hQ
          have k3 : c ((V u9 8 : Nat) : Int) ≠ c ((V h2 8 : Nat) : Int) := fun g => hd' ⟨hx, c_inj hc g9 hB g⟩
          rw [hx] at k1
          generalize c ((V u9 8 : Nat) : Int) = y1 at *
          generalize c ((V h2 8 : Nat) : Int) = y2 at *
          generalize c ((V h1 8 : Nat) : Int) = x2 at *
          have k4 : (y1 - y2) * (y1 + y2) = 0 := by grind
          grind
        rw [hn]
        exact j_join_86 fu h1 h2 u0 u1 u2 u3 u4 u5 u6 u7 u8 u9 u10 u11 g8 g9
      · rw [if_neg (fun g => hx ((cmpN_eq _ _).mp g))]
        unfold xb_M_join_54
        rw [if_pos rfl]
        unfold xb_M_join_92
        rw [if_pos rfl]
        refine ok_bd1 (v_M_minus fu h9 h2 u9 u5 hB g9) (fun f1 q1 => ?_)
        replace q1 := cvm hc g9 q1
        refine ok_bd1 (v_M_minus fu h9 h1 u8 u6 hA g8) (fun f2 q2 => ?_)
        replace q2 := cvm hc g8 q2
        have hxc : c ((V u8 8 : Nat) : Int) ≠ c ((V h1 8 : Nat) : Int) := fun g => hx (c_inj hc g8 hA g)
        have hx0 : c ((V h1 8 : Nat) : Int) - c ((V u8 8 : Nat) : Int) ≠ 0 := fun g => hxc (by grind)
        have h20 : 1 ≤ V f2 8 := Nat.pos_of_ne_zero (fun g => by
          have k := q2.1
          rw [g] at k
          have k0 : c ((0 : Nat) : Int) = 0 := c_0 hc
          rw [k0] at k
          exact hx0 k.symm)
        have hl : (c ((V h2 8 : Nat) : Int) - c ((V u9 8 : Nat) : Int)) / (c ((V h1 8 : Nat) : Int) - c ((V u8 8 : Nat) : Int)) * (c ((V h1 8 : Nat) : Int) - c ((V u8 8 : Nat) : Int)) = c ((V h2 8 : Nat) : Int) - c ((V u9 8 : Nat) : Int) := dvc hx0
        rw [ea_f1 hxc hl]
        refine j_join_185 hc fu hfu h1 h2 0 u0 u1 u2 u3 u4 f1 f2 u7 u8 u9 u10 u11 hA hB q1.2 q2.2 h20 g8 g9 hz _ ?_ _ ?_
        · rw [q1.1, q2.1]; exact hl
        · rw [if_pos rfl]
    · rw [if_neg h3]
      obtain ⟨-, hx, hy⟩ := hs h3
      unfold xb_M_join_49 xb_M_join_54
      rw [if_neg one_ne, if_neg h3]
      unfold xb_M_join_76
      rw [v_M_isZero fu h9, bd1_q, ← hx, ← hy]
      by_cases h0 : V u9 8 = 0
      · rw [if_pos h0, if_neg one_ne]
        have hn : ea (some (c ((V u8 8 : Nat) : Int), c ((V u9 8 : Nat) : Int))) (some (c ((V u8 8 : Nat) : Int), c ((V u9 8 : Nat) : Int))) = none := by
          refine ea_0 ⟨rfl, ?_⟩
          have k0 : c ((0 : Nat) : Int) = 0 := c_0 hc
          rw [h0, k0]
          grind
        rw [hn]
        exact j_join_86 fu h1 h2 u0 u1 u2 u3 u4 u5 u6 u7 u8 u9 u10 u11 g8 g9
      · rw [if_neg h0, if_pos rfl]
        unfold xb_M_join_92
        rw [if_neg one_ne]
        refine ok_bd2 (v_M_times_e32 fu h17 u0 u8 u3 u5) (fun f3 f4 q4 => ?_)
        replace q4 := cvt hc q4
        refine ok_bd1 (v_M_plus_e21 fu h9 f4 u6 q4.2 q4.2) (fun f5 q5 => ?_)
        replace q5 := cvp hc q5
        refine ok_bd1 (v_M_plus_e10 fu h9 f5 f4 q4.2 q5.2) (fun f6 q6 => ?_)
        replace q6 := cvp hc q6
        refine ok_bd1 (v_M_plus_e21 fu h9 u9 f5 g9 g9) (fun f7 q7 => ?_)
        replace q7 := cvp hc q7
        have hy0 : c ((V u9 8 : Nat) : Int) ≠ 0 := c_ne0 hc g9 (Nat.pos_of_ne_zero h0)
        have hk2 := k_2 hc
        have hyy : c ((V u9 8 : Nat) : Int) + c ((V u9 8 : Nat) : Int) ≠ 0 := by
          intro g
          have : 2 * c ((V u9 8 : Nat) : Int) = 0 := by grind
          grind
        have h70 : 1 ≤ V f7 8 := Nat.pos_of_ne_zero (fun g => by
          have k := q7.1
          rw [g] at k
          have k0 : c ((0 : Nat) : Int) = 0 := c_0 hc
          rw [k0] at k
          exact hyy k.symm)
        have hl := dvc (n := c ((V u8 8 : Nat) : Int) * c ((V u8 8 : Nat) : Int) + c ((V u8 8 : Nat) : Int) * c ((V u8 8 : Nat) : Int) + c ((V u8 8 : Nat) : Int) * c ((V u8 8 : Nat) : Int)) hyy
        rw [ea_f2 hyy hl]
        refine j_join_185 hc fu hfu h1 h2 1 u0 u1 u2 f3 u4 f6 f7 u7 u8 u9 u10 u11 hA hB q6.2 q7.2 h70 g8 g9 hz _ ?_ _ ?_
        · rw [q7.1, hl, q6.1, q5.1, q4.1]
          grind
        · rw [if_neg one_ne]
  · have hz0 : ¬ u0 8 = 0 := by rw [hz]; exact one_ne
    rw [if_neg hz0]
    have ep : pt c u0 u8 u9 = none := if_neg hz0
    rw [ep, ea_n0]
    have h3 : a3 = 0 := Classical.byContradiction (fun g => hz0 (hs g).1)
    rw [if_pos h3]
    refine ok_bd1 (v_M_copy fu h1 u8) (fun f2 q2 => ?_)
    refine ok_bd1 (v_M_copy fu h2 u9) (fun f3 q3 => ?_)
    refine ok_bnd (ok_some ⟨fun j hj => pk_un hj, Or.inl (show upd u0 8 (0 : Int32) 8 = 0 from pk_us), ?_, ?_, ?_⟩)
    · show V f2 8 < pP
      rw [V_c q2]; exact hA
    · show V f3 8 < pP
      rw [V_c q3]; exact hB
    · show (if upd u0 8 0 8 = 0 then some (c ((V f2 8 : Nat) : Int), c ((V f3 8 : Nat) : Int)) else none) = _
      rw [pk_us, if_pos rfl, V_c q2, V_c q3]
set_option maxHeartbeats 400000 in
theorem j_join_s1x24s2x25_185 {F : Type} [Lean.Grind.Field F] [DecidableEq F] {c : Int → F} (hc : cH pP c) (fu : Nat) (hfu : 2 ^ 257 ≤ fu) (x4 : Int32) (u0 u1 u2 u3 u4 u5 u6 u7 u8 u9 u10 u11 : Nat → Int32) (g5 : V u5 8 < pP) (g6 : V u6 8 < pP) (g60 : 1 ≤ V u6 8) (g8 : V u8 8 < pP) (g9 : V u9 8 < pP) (hz : u0 8 = 0) (l : F) (hl : l * c ((V u6 8 : Nat) : Int) = c ((V u5 8 : Nat) : Int)) (X2 : F) (hX : X2 = if x4 = 0 then c ((V k24 8 : Nat) : Int) else c ((V u8 8 : Nat) : Int)) :
    ok (xb_M_join_s1x24s2x25_185 fu  x4 u0 u1 u2 u3 u4 u5 u6 u7 u8 u9 u10 u11) (jQ c u0 (some (l * l - c ((V u8 8 : Nat) : Int) - X2, l * (c ((V u8 8 : Nat) : Int) - (l * l - c ((V u8 8 : Nat) : Int) - X2)) - c ((V u9 8 : Nat) : Int)))) := by
  have hA := V_24
  have hB := V_25
  obtain ⟨h9, h17⟩ := f257 hfu
  unfold xb_M_join_s1x24s2x25_185
  refine ok_bd5 (v_M_inverse_s3x22 fu hfu u0 u6 u1 u2 u10 u11 u7 g60 (pr_c pP_pr g60 g6)) (fun f1 f2 f3 f4 f5 q5 => ?_)
  have i5 := c_iv hc q5
  refine ok_bd2 (v_M_times fu h17 u0 u5 f5 u3 u4) (fun f6 f7 q7 => ?_)
  replace q7 := cvt hc q7
  refine ok_bd2 (v_M_times_e32 fu h17 u0 f7 f6 u5) (fun f8 f9 q9 => ?_)
  replace q9 := cvt hc q9
  refine ok_bd1 (v_M_minus_e10 fu h9 u8 f9 q9.2 g8) (fun f10 q10 => ?_)
  replace q10 := cvm hc g8 q10
  have key : ∀ (f11 : Nat → Int32), c ((V f11 8 : Nat) : Int) = c ((V f10 8 : Nat) : Int) - X2 → V f11 8 < pP → ok (bd1 (x_M_minus fu u8 f11 u6) fun f12 => bd2 (x_M_times_e21 fu u0 f7 f8 f12) fun f13 f14 => bd1 (x_M_minus_e20 fu f14 u9) fun f15 => bd1 (x_M_copy fu f11 u8) fun f16 => some (u0, f1, f2, f13, f7, f11, f14, f5, f16, f15, f3, f4)) (jQ c u0 (some (l * l - c ((V u8 8 : Nat) : Int) - X2, l * (c ((V u8 8 : Nat) : Int) - (l * l - c ((V u8 8 : Nat) : Int) - X2)) - c ((V u9 8 : Nat) : Int)))) := by
    intro f11 e11 l11
    refine ok_bd1 (v_M_minus fu h9 u8 f11 u6 g8 l11) (fun f12 q12 => ?_)
    replace q12 := cvm hc l11 q12
    refine ok_bd2 (v_M_times_e21 fu h17 u0 f7 f8 f12) (fun f13 f14 q14 => ?_)
    replace q14 := cvt hc q14
    refine ok_bd1 (v_M_minus_e20 fu h9 f14 u9 q14.2 g9) (fun f15 q15 => ?_)
    replace q15 := cvm hc g9 q15
    refine ok_bd1 (v_M_copy fu f11 u8) (fun f16 q16 => ?_)
    refine ok_some ⟨fun j _ => rfl, Or.inl hz, ?_, q15.2, ?_⟩
    · show V f16 8 < pP
      rw [V_c q16]; exact l11
    · show (if u0 8 = 0 then some (c ((V f16 8 : Nat) : Int), c ((V f15 8 : Nat) : Int)) else none) = _
      rw [if_pos hz, V_c q16]
      have el := jm i5 q7.1 hl
      have r1 := q9.1
      have r2 := q10.1
      have r3 := q12.1
      have r4 := q14.1
      have r5 := q15.1
      rw [el] at r1 r4
      rw [r1] at r2
      rw [r2] at e11
      rw [e11] at r3 ⊢
      rw [r3] at r4
      rw [r4] at r5
      rw [r5]
      congr 2
      grind
  by_cases h4 : x4 = 0
  · rw [if_pos h4] at hX ⊢
    refine ok_bd1 (v_M_minus_e10s2x24 fu h9 f10 q10.2 hA) (fun f11 q11 => ?_)
    replace q11 := cvm hc hA q11
    exact key f11 (by rw [q11.1, hX]) q11.2
  · rw [if_neg h4] at hX ⊢
    refine ok_bd1 (v_M_minus_e10 fu h9 u8 f10 q10.2 g8) (fun f11 q11 => ?_)
    replace q11 := cvm hc g8 q11
    exact key f11 (by rw [q11.1, hX]) q11.2
set_option maxHeartbeats 200000 in
theorem j_join_s1x24s2x25_86 {F : Type} [Lean.Grind.Field F] [DecidableEq F] {c : Int → F} (fu : Nat) (u0 u1 u2 u3 u4 u5 u6 u7 u8 u9 u10 u11 : Nat → Int32) (g8 : V u8 8 < pP) (g9 : V u9 8 < pP) : ok (xb_M_join_s1x24s2x25_86 fu  u0 u1 u2 u3 u4 u5 u6 u7 u8 u9 u10 u11) (jQ c u0 none) := by
  unfold xb_M_join_s1x24s2x25_86
  refine ok_bnd (ok_some ⟨fun j hj => pk_un hj, Or.inr (show upd u0 8 (1 : Int32) 8 = 1 from pk_us), g8, g9, ?_⟩)
  show (if upd u0 8 1 8 = 0 then _ else none) = none
  rw [pk_us, if_neg one_ne]
set_option maxHeartbeats 400000 in
theorem j_join_s1x24s2x25 {F : Type} [Lean.Grind.Field F] [DecidableEq F] {c : Int → F} (hc : cH pP c) (fu : Nat) (hfu : 2 ^ 257 ≤ fu) (a3 : Int32) (u0 u1 u2 u3 u4 u5 u6 u7 u8 u9 u10 u11 : Nat → Int32) (g8 : V u8 8 < pP) (g9 : V u9 8 < pP) (hz : u0 8 = 0 ∨ u0 8 = 1)
    (hR : onC (c 7) (pt c u0 u8 u9)) (hQ : onC (c 7) (some (c ((V k24 8 : Nat) : Int), c ((V k25 8 : Nat) : Int)))) (hs : a3 ≠ 0 → u0 8 = 0 ∧ V u8 8 = V k24 8 ∧ V u9 8 = V k25 8) (hd : a3 = 0 → u0 8 = 0 → ¬ (V u8 8 = V k24 8 ∧ V u9 8 = V k25 8)) :
    ok (x_M_join_s1x24s2x25 fu  a3 u0 u1 u2 u3 u4 u5 u6 u7 u8 u9 u10 u11) (jQ c u0 (ea (pt c u0 u8 u9) (some (c ((V k24 8 : Nat) : Int), c ((V k25 8 : Nat) : Int))))) := by
  have hA := V_24
  have hB := V_25
  obtain ⟨h9, h17⟩ := f257 hfu
  unfold x_M_join_s1x24s2x25
  rcases hz with hz | hz
  · rw [if_pos hz]
    have ep : pt c u0 u8 u9 = some (c ((V u8 8 : Nat) : Int), c ((V u9 8 : Nat) : Int)) := if_pos hz
    rw [ep] at hR ⊢
    by_cases h3 : a3 = 0
    · rw [if_pos h3, v_M_compare_s1x24 fu h9 u8, bd1_q]
      have hd' := hd h3 hz
      by_cases hx : V u8 8 = V k24 8
      · rw [if_pos ((cmpN_eq _ _).mpr hx)]
        unfold xb_M_join_s1x24s2x25_49 xb_M_join_s1x24s2x25_54
        rw [if_neg one_ne, if_pos h3, v_M_compare_s1x25 fu h9 u9, bd1_q, if_neg (fun g => hd' ⟨hx, (cmpN_eq _ _).mp g⟩)]
        have hn : ea (some (c ((V u8 8 : Nat) : Int), c ((V u9 8 : Nat) : Int))) (some (c ((V k24 8 : Nat) : Int), c ((V k25 8 : Nat) : Int))) = none := by
          refine ea_0 ⟨by rw [hx], ?_⟩
          have k1 : c ((V u9 8 : Nat) : Int) * c ((V u9 8 : Nat) : Int) = c ((V u8 8 : Nat) : Int) * c ((V u8 8 : Nat) : Int) * c ((V u8 8 : Nat) : Int) + c 7 := hR
          have k2 : c ((V k25 8 : Nat) : Int) * c ((V k25 8 : Nat) : Int) = c ((V k24 8 : Nat) : Int) * c ((V k24 8 : Nat) : Int) * c ((V k24 8 : Nat) : Int) + c 7 := hQ
          have k3 : c ((V u9 8 : Nat) : Int) ≠ c ((V k25 8 : Nat) : Int) := fun g => hd' ⟨hx, c_inj hc g9 hB g⟩
          rw [hx] at k1
          generalize c ((V u9 8 : Nat) : Int) = y1 at *
          generalize c ((V k25 8 : Nat) : Int) = y2 at *
          generalize c ((V k24 8 : Nat) : Int) = x2 at *
          have k4 : (y1 - y2) * (y1 + y2) = 0 := by grind
          grind
        rw [hn]
        exact j_join_s1x24s2x25_86 fu  u0 u1 u2 u3 u4 u5 u6 u7 u8 u9 u10 u11 g8 g9
      · rw [if_neg (fun g => hx ((cmpN_eq _ _).mp g))]
        unfold xb_M_join_s1x24s2x25_54
        rw [if_pos rfl]
        unfold xb_M_join_s1x24s2x25_92
        rw [if_pos rfl]
        refine ok_bd1 (v_M_minus_s1x25 fu h9 u9 u5 hB g9) (fun f1 q1 => ?_)
        replace q1 := cvm hc g9 q1
        refine ok_bd1 (v_M_minus_s1x24 fu h9 u8 u6 hA g8) (fun f2 q2 => ?_)
        replace q2 := cvm hc g8 q2
        have hxc : c ((V u8 8 : Nat) : Int) ≠ c ((V k24 8 : Nat) : Int) := fun g => hx (c_inj hc g8 hA g)
        have hx0 : c ((V k24 8 : Nat) : Int) - c ((V u8 8 : Nat) : Int) ≠ 0 := fun g => hxc (by grind)
        have h20 : 1 ≤ V f2 8 := Nat.pos_of_ne_zero (fun g => by
          have k := q2.1
          rw [g] at k
          have k0 : c ((0 : Nat) : Int) = 0 := c_0 hc
          rw [k0] at k
          exact hx0 k.symm)
        have hl : (c ((V k25 8 : Nat) : Int) - c ((V u9 8 : Nat) : Int)) / (c ((V k24 8 : Nat) : Int) - c ((V u8 8 : Nat) : Int)) * (c ((V k24 8 : Nat) : Int) - c ((V u8 8 : Nat) : Int)) = c ((V k25 8 : Nat) : Int) - c ((V u9 8 : Nat) : Int) := dvc hx0
        rw [ea_f1 hxc hl]
        refine j_join_s1x24s2x25_185 hc fu hfu  0 u0 u1 u2 u3 u4 f1 f2 u7 u8 u9 u10 u11 q1.2 q2.2 h20 g8 g9 hz _ ?_ _ ?_
        · rw [q1.1, q2.1]; exact hl
        · rw [if_pos rfl]
    · rw [if_neg h3]
      obtain ⟨-, hx, hy⟩ := hs h3
      unfold xb_M_join_s1x24s2x25_49 xb_M_join_s1x24s2x25_54
      rw [if_neg one_ne, if_neg h3]
      unfold xb_M_join_s1x24s2x25_76
      rw [v_M_isZero fu h9, bd1_q, ← hx, ← hy]
      by_cases h0 : V u9 8 = 0
      · rw [if_pos h0, if_neg one_ne]
        have hn : ea (some (c ((V u8 8 : Nat) : Int), c ((V u9 8 : Nat) : Int))) (some (c ((V u8 8 : Nat) : Int), c ((V u9 8 : Nat) : Int))) = none := by
          refine ea_0 ⟨rfl, ?_⟩
          have k0 : c ((0 : Nat) : Int) = 0 := c_0 hc
          rw [h0, k0]
          grind
        rw [hn]
        exact j_join_s1x24s2x25_86 fu  u0 u1 u2 u3 u4 u5 u6 u7 u8 u9 u10 u11 g8 g9
      · rw [if_neg h0, if_pos rfl]
        unfold xb_M_join_s1x24s2x25_92
        rw [if_neg one_ne]
        refine ok_bd2 (v_M_times_e32 fu h17 u0 u8 u3 u5) (fun f3 f4 q4 => ?_)
        replace q4 := cvt hc q4
        refine ok_bd1 (v_M_plus_e21 fu h9 f4 u6 q4.2 q4.2) (fun f5 q5 => ?_)
        replace q5 := cvp hc q5
        refine ok_bd1 (v_M_plus_e10 fu h9 f5 f4 q4.2 q5.2) (fun f6 q6 => ?_)
        replace q6 := cvp hc q6
        refine ok_bd1 (v_M_plus_e21 fu h9 u9 f5 g9 g9) (fun f7 q7 => ?_)
        replace q7 := cvp hc q7
        have hy0 : c ((V u9 8 : Nat) : Int) ≠ 0 := c_ne0 hc g9 (Nat.pos_of_ne_zero h0)
        have hk2 := k_2 hc
        have hyy : c ((V u9 8 : Nat) : Int) + c ((V u9 8 : Nat) : Int) ≠ 0 := by
          intro g
          have : 2 * c ((V u9 8 : Nat) : Int) = 0 := by grind
          grind
        have h70 : 1 ≤ V f7 8 := Nat.pos_of_ne_zero (fun g => by
          have k := q7.1
          rw [g] at k
          have k0 : c ((0 : Nat) : Int) = 0 := c_0 hc
          rw [k0] at k
          exact hyy k.symm)
        have hl := dvc (n := c ((V u8 8 : Nat) : Int) * c ((V u8 8 : Nat) : Int) + c ((V u8 8 : Nat) : Int) * c ((V u8 8 : Nat) : Int) + c ((V u8 8 : Nat) : Int) * c ((V u8 8 : Nat) : Int)) hyy
        rw [ea_f2 hyy hl]
        refine j_join_s1x24s2x25_185 hc fu hfu  1 u0 u1 u2 f3 u4 f6 f7 u7 u8 u9 u10 u11 q6.2 q7.2 h70 g8 g9 hz _ ?_ _ ?_
        · rw [q7.1, hl, q6.1, q5.1, q4.1]
          grind
        · rw [if_neg one_ne]
  · have hz0 : ¬ u0 8 = 0 := by rw [hz]; exact one_ne
    rw [if_neg hz0]
    have ep : pt c u0 u8 u9 = none := if_neg hz0
    rw [ep, ea_n0]
    have h3 : a3 = 0 := Classical.byContradiction (fun g => hz0 (hs g).1)
    rw [if_pos h3]
    refine ok_bd1 (v_M_copy_s1x24 fu u8) (fun f2 q2 => ?_)
    refine ok_bd1 (v_M_copy_s1x25 fu u9) (fun f3 q3 => ?_)
    refine ok_bnd (ok_some ⟨fun j hj => pk_un hj, Or.inl (show upd u0 8 (0 : Int32) 8 = 0 from pk_us), ?_, ?_, ?_⟩)
    · show V f2 8 < pP
      rw [V_c q2]; exact hA
    · show V f3 8 < pP
      rw [V_c q3]; exact hB
    · show (if upd u0 8 0 8 = 0 then some (c ((V f2 8 : Nat) : Int), c ((V f3 8 : Nat) : Int)) else none) = _
      rw [pk_us, if_pos rfl, V_c q2, V_c q3]
