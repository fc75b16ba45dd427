set_option maxHeartbeats 200000 in
theorem g_med {F : Type} [Lean.Grind.Field F] [DecidableEq F] {c : Int → F} (hc : cH pP c) {a b d e : Option (F × F)} (ha : onC (c 7) a) (hb : onC (c 7) b) (hd : onC (c 7) d) (he : onC (c 7) e) : ea (ea a b) (ea d e) = ea (ea a d) (ea b e) := by
  rw [g_as hc ha hb (g_on hc hd he), ← g_as hc hb hd he, g_c hc hb hd, g_as hc hd hb he, ← g_as hc ha hd (g_on hc hb he)]
set_option maxHeartbeats 200000 in
theorem sm_b {F : Type} [Lean.Grind.Field F] [DecidableEq F] {c : Int → F} (hc : cH pP c) {p : Option (F × F)} (hp : onC (c 7) p) {n k : Nat} : sm p (n / 2 ^ k) = ea (ea (sm p (n / 2 ^ (k + 1))) (sm p (n / 2 ^ (k + 1)))) (sm p (n / 2 ^ k % 2)) := by
  have e : n / 2 ^ (k + 1) = n / 2 ^ k / 2 := by rw [Nat.pow_succ, Nat.div_div_eq_div_mul]
  rw [e]
  generalize n / 2 ^ k = X
  rw [← sm_add hc hp, ← sm_add hc hp]
  congr 1
  omega
def gG {F : Type} (c : Int → F) : Option (F × F) := some (c ((V k24 8 : Nat) : Int), c ((V k25 8 : Nat) : Int))
set_option maxHeartbeats 200000 in
theorem gG_n : onN (V k24 8) (V k25 8) = true := by decide +kernel
set_option maxHeartbeats 200000 in
theorem gG_on {F : Type} [Lean.Grind.Field F] {c : Int → F} (hc : cH pP c) : onC (c 7) (gG c) := onN_c hc gG_n
/-- the sum of a signature, bits below k left -/
def gS {F : Type} [Lean.Grind.Field F] [DecidableEq F] (c : Int → F) (q : Option (F × F)) (a b k : Nat) : Option (F × F) := ea (sm (gG c) (a / 2 ^ k)) (sm q (b / 2 ^ k))
set_option maxHeartbeats 200000 in
theorem gS_on {F : Type} [Lean.Grind.Field F] [DecidableEq F] {c : Int → F} (hc : cH pP c) {q : Option (F × F)} (hq : onC (c 7) q) (a b k : Nat) : onC (c 7) (gS c q a b k) := g_on hc (sm_on hc (gG_on hc) _) (sm_on hc hq _)
set_option maxHeartbeats 200000 in
theorem gS_s {F : Type} [Lean.Grind.Field F] [DecidableEq F] {c : Int → F} (hc : cH pP c) {q : Option (F × F)} (hq : onC (c 7) q) (a b k : Nat) : gS c q a b k = ea (ea (gS c q a b (k + 1)) (gS c q a b (k + 1))) (ea (sm (gG c) (a / 2 ^ k % 2)) (sm q (b / 2 ^ k % 2))) := by
  have hg := gG_on hc
  unfold gS
  rw [sm_b hc hg (n := a) (k := k), sm_b hc hq (n := b) (k := k)]
  have h1 := sm_on hc hg (a / 2 ^ (k + 1))
  have h2 := sm_on hc hq (b / 2 ^ (k + 1))
  have h3 := sm_on hc hg (a / 2 ^ k % 2)
  have h4 := sm_on hc hq (b / 2 ^ k % 2)
  rw [g_med hc (g_on hc h1 h1) h3 (g_on hc h2 h2) h4, g_med hc h1 h1 h2 h2]
set_option maxHeartbeats 200000 in
theorem sm_0 {F : Type} [Lean.Grind.Field F] [DecidableEq F] (p : Option (F × F)) : sm p 0 = none := rfl
/-- what the sum must be: x of it is r modulo n -/
def gF {F : Type} [Lean.Grind.Field F] (c : Int → F) (R : Option (F × F)) (r : Nat) : Prop := ∃ X Y : Nat, X < pP ∧ R = some (c (X : Int), c (Y : Int)) ∧ X % nN = r
set_option maxHeartbeats 200000 in
theorem pN_1 : nN < pP := by decide +kernel
set_option maxHeartbeats 200000 in
theorem pN_2 : pP < 2 * nN := by decide +kernel
set_option maxHeartbeats 200000 in
theorem x_m {X r c N T P : Nat} (h : r + N = X + c * T) (hc : c ≤ 1) (hX : ¬ X < N) (hP : X < P) (hPN : P < 2 * N) (hr : r < T) (hT : N < T) : X % N = r := by
  rcases c_01 hc with rfl | rfl
  · rw [show X = r + N by omega, Nat.add_mod_right, Nat.mod_eq_of_lt (by omega)]
  · omega
set_option maxHeartbeats 200000 in
theorem rt_u {p y z : Nat} (hp : pr p) (ho : p % 2 = 1) (hy : y < p) (hz : z < p) (h : y * y % p = z * z % p) (he : y % 2 = z % 2) : y = z := by
  have key : ∀ {y z : Nat}, y ≤ z → z < p → y * y % p = z * z % p → y % 2 = z % 2 → y = z := by
    intro y z hl hz h he
    have h1 : p ∣ z * z - y * y := Nat.dvd_of_mod_eq_zero (Nat.sub_mod_eq_zero_of_mod_eq h.symm)
    have h2 : z * z - y * y = (z - y) * (z + y) := by
      obtain ⟨d, rfl⟩ : ∃ d, z = y + d := ⟨z - y, by omega⟩
      rw [show y + d - y = d by omega]
      have : (y + d) * (y + d) = y * y + d * (y + d + y) := by grind
      omega
    rw [h2] at h1
    rcases pr_mul hp h1 with g | g
    · rcases Nat.eq_zero_or_pos (z - y) with q | q
      · omega
      · have := Nat.le_of_dvd q g
        omega
    · rcases Nat.eq_zero_or_pos (z + y) with q | q
      · omega
      · obtain ⟨k, hk⟩ := g
        have hk1 : k = 1 := by
          rcases Nat.lt_or_ge k 2 with r | r
          · rcases c_01 (show k ≤ 1 by omega) with rfl | rfl
            · omega
            · rfl
          · have : p * 2 ≤ p * k := Nat.mul_le_mul_left p r
            omega
        rw [hk1] at hk
        omega
  rcases Nat.le_total y z with g | g
  · exact key g hz h he
  · exact (key g hy h.symm he.symm).symm
set_option maxHeartbeats 200000 in
theorem e_m {X r c N T : Nat} (h : r + N = X + c * T) (hc : c ≤ 1) (hX : ¬ X < N) (hXT : X < T) (hr : r < T) (hT : N < T) : r % N = X % N := by
  rcases c_01 hc with rfl | rfl
  · rw [show X = r + N by omega, Nat.add_mod_right]
  · omega
def zK (z0 : Nat → Int32) (C : Prop) (r : Int32 × (Nat → Int32) × (Nat → Int32) × (Nat → Int32) × (Nat → Int32) × (Nat → Int32) × (Nat → Int32) × (Nat → Int32) × (Nat → Int32) × (Nat → Int32) × (Nat → Int32) × (Nat → Int32) × (Nat → Int32) × (Nat → Int32) × (Nat → Int32) × (Nat → Int32) × (Nat → Int32) × (Nat → Int32) × (Nat → Int32) × (Nat → Int32) × (Nat → Int32) × (Nat → Int32) × (Nat → Int32)) : Prop := (∀ j, j ≠ 8 → r.2.1 j = z0 j) ∧ ((r.1 = 1 ∧ C) ∨ (r.1 = 0 ∧ ¬ C))
set_option maxHeartbeats 200000 in
theorem s_372 (fu : Nat) (hfu : 9 ≤ fu) (hash one : Nat → Int32) (n1 : Nat) (h : Nat → Int32) (u0 u1 u2 u3 u4 u5 u6 u7 u8 u9 u10 u11 u12 u13 u14 u15 u16 u17 u18 u19 u20 u21 : Nat → Int32) (z0 : Nat → Int32) (hz : ∀ j, j ≠ 8 → u0 j = z0 j) (C : Prop) (hC : C ↔ V u13 8 = V u15 8) : ok (xb_M_isSigned_e41_372 fu hash one n1 h u0 u1 u2 u3 u4 u5 u6 u7 u8 u9 u10 u11 u12 u13 u14 u15 u16 u17 u18 u19 u20 u21) (zK z0 C) := by
  unfold xb_M_isSigned_e41_372
  rw [v_M_compare fu hfu, bd1_q]
  refine ok_ite (fun g => ok_some ⟨hz, Or.inl ⟨rfl, hC.mpr ((cmpN_eq _ _).mp g)⟩⟩) (fun g => ok_some ⟨hz, Or.inr ⟨rfl, fun q => g ((cmpN_eq _ _).mpr (hC.mp q))⟩⟩)
set_option maxHeartbeats 1000000 in
theorem s_220 {F : Type} [Lean.Grind.Field F] [DecidableEq F] {c : Int → F} (hc : cH pP c) (fu : Nat) (hfu : 2 ^ 257 ≤ fu) (hash one : Nat → Int32) (n1 : Nat) (h : Nat → Int32) (z0 : Nat → Int32) (sf : Int32) (u9 u10 u11 u12 u15 u16 u17 u18 u19 : Nat → Int32)
    (g9 : V u9 8 < pP) (g10 : V u10 8 < pP) (hQ : onC (c 7) (some (c ((V u9 8 : Nat) : Int), c ((V u10 8 : Nat) : Int)))) (hS0 : sf ≠ 0 → ea (gG c) (some (c ((V u9 8 : Nat) : Int), c ((V u10 8 : Nat) : Int))) = none) (g11 : V u11 8 < pP) (g12 : V u12 8 < pP) (hS1 : sf = 0 → ea (gG c) (some (c ((V u9 8 : Nat) : Int), c ((V u10 8 : Nat) : Int))) = some (c ((V u11 8 : Nat) : Int), c ((V u12 8 : Nat) : Int))) (Q : Option (F × F)) (eQ : Q = some (c ((V u9 8 : Nat) : Int), c ((V u10 8 : Nat) : Int))) :
    ∀ k m u0 u1 u2 u3 u4 u5 u6 u7 u8 u13 u14 u20 u21, k ≤ 256 → k < m → (∀ j, j ≠ 8 → u0 j = z0 j) → (u0 8 = 0 ∨ u0 8 = 1) → V u13 8 < pP → V u14 8 < pP → pt c u0 u13 u14 = gS c Q (V u18 8) (V u19 8) k → ok (x_M_isSigned_e41_220 fu hash one n1 h m sf (nI k + (-1)) u0 u1 u2 u3 u4 u5 u6 u7 u8 u9 u10 u11 u12 u13 u14 u15 u16 u17 u18 u19 u20 u21) (zK z0 (gF c (gS c Q (V u18 8) (V u19 8) 0) (V u15 8))) := by
  obtain ⟨h9, h17⟩ := f257 hfu
  have hQ' : onC (c 7) Q := by rw [eQ]; exact hQ
  intro k
  induction k with
  | zero =>
    intro m u0 u1 u2 u3 u4 u5 u6 u7 u8 u13 u14 u20 u21 _ hm hz hb g13 g14 hI
    obtain ⟨m, rfl⟩ : ∃ q, m = q + 1 := ⟨m - 1, by omega⟩
    show ok (xb_M_isSigned_e41_220 fu hash one n1 h (x_M_isSigned_e41_220 fu hash one n1 h m) sf (nI 0 + (-1)) u0 u1 u2 u3 u4 u5 u6 u7 u8 u9 u10 u11 u12 u13 u14 u15 u16 u17 u18 u19 u20 u21) _
    unfold xb_M_isSigned_e41_220
    refine ok_t (by decide) ?_
    rw [← hI]
    rcases hb with hb | hb
    · refine ok_t hb ?_
      have ep : pt c u0 u13 u14 = some (c ((V u13 8 : Nat) : Int), c ((V u14 8 : Nat) : Int)) := if_pos hb
      rw [ep]
      have hF : ∀ r, gF c (some (c ((V u13 8 : Nat) : Int), c ((V u14 8 : Nat) : Int))) r ↔ V u13 8 % nN = r := by
        intro r
        constructor
        · intro ⟨X, Y, hX, e, hr⟩
          have e1 := congrArg Prod.fst (Option.some.inj e)
          rw [c_inj hc g13 hX e1]
          exact hr
        · intro e
          exact ⟨V u13 8, V u14 8, g13, rfl, e⟩
      rw [v_M_compare_s1x23 fu h9, bd1_q, V_23]
      refine ok_ite (fun g => ?_) (fun g => ?_)
      · refine s_372 fu h9 hash one n1 h u0 u1 u2 u3 u4 u5 u6 u7 u8 u9 u10 u11 u12 u13 u14 u15 u16 u17 u18 u19 u20 u21 z0 hz _ ?_
        rw [hF, Nat.mod_eq_of_lt ((cmpN_lt _ _).mp g)]
      · obtain ⟨cc, f3, e3, hcc, h3⟩ := v_M_sub_e10s2x23 fu h9 u13
        rw [e3, bd2_q]
        rw [V_23] at h3
        refine s_372 fu h9 hash one n1 h u0 u1 u2 u3 u4 u5 u6 u7 u8 u9 u10 u11 u12 f3 u14 u15 u16 u17 u18 u19 u20 u21 z0 hz _ ?_
        rw [hF, x_m h3 hcc (fun q => g ((cmpN_lt _ _).mpr q)) g13 pN_2 (V8_lt f3) nN_T]
    · have hb0 : ¬ u0 8 = 0 := by rw [hb]; exact one_ne
      refine ok_f hb0 (ok_some ⟨hz, Or.inr ⟨rfl, ?_⟩⟩)
      have ep : pt c u0 u13 u14 = none := if_neg hb0
      rw [ep]
      intro ⟨X, Y, hX, e, hr⟩
      cases e
  | succ k ih =>
    intro m u0 u1 u2 u3 u4 u5 u6 u7 u8 u13 u14 u20 u21 hk hm hz hb g13 g14 hI
    obtain ⟨m, rfl⟩ : ∃ q, m = q + 1 := ⟨m - 1, by omega⟩
    rw [pk_m1]
    show ok (xb_M_isSigned_e41_220 fu hash one n1 h (x_M_isSigned_e41_220 fu hash one n1 h m) sf (nI k) u0 u1 u2 u3 u4 u5 u6 u7 u8 u9 u10 u11 u12 u13 u14 u15 u16 u17 u18 u19 u20 u21) _
    unfold xb_M_isSigned_e41_220
    refine ok_f (nI_pos (by omega)) ?_
    refine ok_bd12 (j_dbl hc fu hfu u0 u2 u3 u4 u5 u6 u7 u8 u13 u14 u20 u21 g13 g14 hb) (fun f4 f5 f6 f7 f8 f9 f10 f11 f12 f13 f14 f15 q => ?_)
    obtain ⟨q1, q2, q3, q4, q5⟩ := q
    replace q1 : ∀ j, j ≠ 8 → f4 j = u0 j := q1
    replace q2 : f4 8 = 0 ∨ f4 8 = 1 := q2
    replace q3 : V f12 8 < pP := q3
    replace q4 : V f13 8 < pP := q4
    replace q5 : pt c f4 f12 f13 = ea (pt c u0 u13 u14) (pt c u0 u13 u14) := q5
    rw [hI] at q5
    have hgk := gS_on hc hQ' (V u18 8) (V u19 8) (k + 1)
    have hD : onC (c 7) (pt c f4 f12 f13) := by rw [q5]; exact g_on hc hgk hgk
    have hst := gS_s hc hQ' (V u18 8) (V u19 8) k
    rw [← q5] at hst
    rw [v_M_bit fu u18 (k := k) (by omega), bd1_q, v_M_bit fu u19 (k := k) (by omega), bd1_q]
    have next : ∀ (w0 w1 w2 w3 w4 w5 w6 w7 w8 w13 w14 w20 w21 : Nat → Int32), (∀ j, j ≠ 8 → w0 j = f4 j) → (w0 8 = 0 ∨ w0 8 = 1) → V w13 8 < pP → V w14 8 < pP → pt c w0 w13 w14 = ea (pt c f4 f12 f13) (ea (sm (gG c) (V u18 8 / 2 ^ k % 2)) (sm Q (V u19 8 / 2 ^ k % 2))) → ok (xb_M_isSigned_e41_329 fu hash one n1 h (x_M_isSigned_e41_220 fu hash one n1 h m) sf (nI k) w0 w1 w2 w3 w4 w5 w6 w7 w8 u9 u10 u11 u12 w13 w14 u15 u16 u17 u18 u19 w20 w21) (zK z0 (gF c (gS c Q (V u18 8) (V u19 8) 0) (V u15 8))) := by
      intro w0 w1 w2 w3 w4 w5 w6 w7 w8 w13 w14 w20 w21 r1 r2 r3 r4 r5
      unfold xb_M_isSigned_e41_329
      refine ok_bnd (ih m w0 w1 w2 w3 w4 w5 w6 w7 w8 w13 w14 w20 w21 (by omega) (by omega) (fun j hj => by rw [r1 j hj, q1 j hj, hz j hj]) r2 r3 r4 ?_)
      rw [r5, hst]
    have hbit : ∀ n : Nat, n % 2 = 0 ∨ n % 2 = 1 := fun n => by omega
    rcases hbit (V u18 8 / 2 ^ k) with b1 | b1
    · rw [b1] at next ⊢
      refine ok_f (by decide) ?_
      unfold xb_M_isSigned_e41_292
      refine ok_f (by decide) ?_
      rcases hbit (V u19 8 / 2 ^ k) with b2 | b2
      · rw [b2] at next ⊢
        refine ok_f (by decide) ?_
        exact next f4 u1 f5 f6 f7 f8 f9 f10 f11 f12 f13 f14 f15 (fun j _ => rfl) q2 q3 q4 (by rw [sm_0, sm_0, ea_n0, ea_0n])
      · rw [b2] at next ⊢
        refine ok_t rfl ?_
        refine ok_bd12 (j_other1 hc fu hfu u9 u10 f4 f5 f6 f7 f8 f9 f10 f11 f12 f13 f14 f15 g9 g10 q3 q4 q2 hD hQ) (fun e1 e2 e3 e4 e5 e6 e7 e8 e9 e10 e11 e12 r => ?_)
        exact next e1 u1 e2 e3 e4 e5 e6 e7 e8 e9 e10 e11 e12 r.1 r.2.1 r.2.2.1 r.2.2.2.1 (by rw [sm_0, ea_n0, sm_1, eQ]; exact r.2.2.2.2)
    · rw [b1] at next ⊢
      refine ok_t rfl ?_
      rcases hbit (V u19 8 / 2 ^ k) with b2 | b2
      · rw [b2] at next ⊢
        refine ok_f (by decide) ?_
        unfold xb_M_isSigned_e41_292
        refine ok_t rfl ?_
        refine ok_bd12 (j_other1_s1x24s2x25 hc fu hfu f4 f5 f6 f7 f8 f9 f10 f11 f12 f13 f14 f15 q3 q4 q2 hD (gG_on hc)) (fun e1 e2 e3 e4 e5 e6 e7 e8 e9 e10 e11 e12 r => ?_)
        exact next e1 u1 e2 e3 e4 e5 e6 e7 e8 e9 e10 e11 e12 r.1 r.2.1 r.2.2.1 r.2.2.2.1 (by rw [sm_0, ea_0n, sm_1]; exact r.2.2.2.2)
      · rw [b2] at next ⊢
        refine ok_t rfl ?_
        refine ok_ite (fun gs => ?_) (fun gs => ?_)
        · have hS := hS1 gs
          have hSon : onC (c 7) (some (c ((V u11 8 : Nat) : Int), c ((V u12 8 : Nat) : Int))) := by rw [← hS]; exact g_on hc (gG_on hc) hQ
          refine ok_bd12 (j_other1 hc fu hfu u11 u12 f4 f5 f6 f7 f8 f9 f10 f11 f12 f13 f14 f15 g11 g12 q3 q4 q2 hD hSon) (fun e1 e2 e3 e4 e5 e6 e7 e8 e9 e10 e11 e12 r => ?_)
          exact next e1 u1 e2 e3 e4 e5 e6 e7 e8 e9 e10 e11 e12 r.1 r.2.1 r.2.2.1 r.2.2.2.1 (by rw [sm_1, sm_1, eQ, hS]; exact r.2.2.2.2)
        · have hS := hS0 gs
          exact next f4 u1 f5 f6 f7 f8 f9 f10 f11 f12 f13 f14 f15 (fun j _ => rfl) q2 q3 q4 (by rw [sm_1, sm_1, eQ, hS, ea_0n])
set_option maxHeartbeats 200000 in
theorem kS_u {h : Nat → Int32} {a n x y x' y' : Nat} (s : kS h a n x y) (s' : kS h a n x' y') : x = x' ∧ y = y' := by
  obtain ⟨k1, k2, k3, k4, k5, k6, k7⟩ := s
  obtain ⟨l1, l2, l3, l4, l5, l6, l7⟩ := s'
  have ex : x = x' := by rw [k2, l2]
  refine ⟨ex, ?_⟩
  rcases k1 with ⟨hn, -⟩ | ⟨hn, -⟩
  · have hp : y % 2 = y' % 2 := by
      have h1 := k7 hn
      have h2 := l7 hn
      exact (nI_01 (Nat.mod_lt _ (by decide)) (Nat.mod_lt _ (by decide))).mp (by rw [h1, h2])
    rw [← ex, ← k5] at l5
    exact rt_u pP_pr pP_o k4 l4 l5.symm hp
  · rw [k6 hn, l6 hn]
/-- a number that is e divided by s modulo n -/
def dvN (e s u : Nat) : Prop := u < nN ∧ u * s % nN = e % nN
/-- the equation of a signature -/
def edS {F : Type} [Lean.Grind.Field F] [DecidableEq F] (c : Int → F) (e r s x y : Nat) : Prop := ∃ a b, dvN e s a ∧ dvN r s b ∧ gF c (ea (sm (gG c) a) (sm (some (c (x : Int), c (y : Int))) b)) r
set_option maxHeartbeats 200000 in
theorem dvN_u {e s a b : Nat} (hs : 0 < s) (hsn : s < nN) (ha : dvN e s a) (hb : dvN e s b) : a = b := by
  have key : ∀ {a b : Nat}, a ≤ b → b < nN → a * s % nN = b * s % nN → a = b := by
    intro a b hl hbn h
    have h1 : nN ∣ b * s - a * s := Nat.dvd_of_mod_eq_zero (Nat.sub_mod_eq_zero_of_mod_eq h.symm)
    rw [← Nat.sub_mul] at h1
    rcases pr_mul nN_pr h1 with g | g
    · rcases Nat.eq_zero_or_pos (b - a) with q | q
      · omega
      · have := Nat.le_of_dvd q g
        omega
    · have := Nat.le_of_dvd hs g
      omega
  rcases Nat.le_total a b with g | g
  · exact key g hb.1 (by rw [ha.2, hb.2])
  · exact (key g ha.1 (by rw [ha.2, hb.2])).symm
set_option maxHeartbeats 200000 in
theorem iN_d {a x e : Nat} (h : iR a nN x 1) : dvN e a (e * x % nN) := by
  have hp : 0 < nN := Nat.lt_trans (by decide) nN_pr.1
  refine ⟨Nat.mod_lt _ hp, ?_⟩
  obtain ⟨-, k, hk⟩ := h
  rw [Nat.mod_mul_mod, Nat.mul_assoc, Nat.mul_mod]
  have h1 : x * a % nN = 1 := by
    have h2 : ((x * a : Nat) : Int) % (nN : Int) = 1 := by
      rw [Int.natCast_mul, hk]
      have : ((1 : Nat) : Int) + (nN : Int) * k = 1 + (nN : Int) * k := rfl
      rw [this, Int.add_mul_emod_self_left]
      exact Int.emod_eq_of_lt (by decide) (by have := nN_pr.1; omega)
    omega
  rw [h1, Nat.mul_one, Nat.mod_mod]
set_option maxHeartbeats 1000000 in
theorem v_isSigned {F : Type} [Lean.Grind.Field F] [DecidableEq F] {c : Int → F} (hc : cH pP c) (fu : Nat) (hfu : 2 ^ 257 ≤ fu) (hash one : Nat → Int32) (hone : V one 8 = 1) (n1 : Nat) (hn1 : n1 < 2 ^ 31) (h : Nat → Int32) {a n b m : Nat} (ha : a + n ≤ n1) (hb : b + m ≤ n1) (u0 u1 u2 u3 u4 u5 u6 u7 u8 u9 u10 u11 u12 u13 u14 u15 u16 u17 u18 u19 u20 u21 : Nat → Int32) :
    ok (x_M_isSigned_e41 fu hash one n1 h (nI a) (nI n) (nI b) (nI m) u0 u1 u2 u3 u4 u5 u6 u7 u8 u9 u10 u11 u12 u13 u14 u15 u16 u17 u18 u19 u20 u21) (zK u0 (∃ x y, kS h a n x y ∧ sgA h b m ∧ edS c (beN hash 0 32) (sgR h b) (sgV h b) x y)) := by
  obtain ⟨h9, h17⟩ := f257 hfu
  have h300 : 300 ≤ fu := Nat.le_trans (by decide) hfu
  have h600 : 600 ≤ fu := Nat.le_trans (by decide) hfu
  unfold x_M_isSigned_e41
  refine ok_bd7 (v_M_isKey fu h300 u0 one hone n1 hn1 h ha u4 u6 u7 u8 u9 u10) (fun v1 f2 f3 f4 f5 f6 f7 q => ?_)
  rcases q with ⟨e1, q⟩ | ⟨e1, q⟩
  · exact ok_t e1 (ok_some ⟨fun j _ => rfl, Or.inr ⟨rfl, fun ⟨x, y, s, _⟩ => q x y s⟩⟩)
  · refine ok_f (by rw [show v1 = 1 from e1]; exact one_ne) ?_
    replace q : kS h a n (V f6 8) (V f7 8) := q
    refine ok_bd3 (v_M_isSignature fu (by omega) u0 n1 hn1 h hb u15 u16) (fun v8 f9 f10 q8 => ?_)
    rcases q8 with ⟨e8, q8⟩ | ⟨e8, q8, q9, q10⟩
    · exact ok_t e8 (ok_some ⟨fun j _ => rfl, Or.inr ⟨rfl, fun ⟨x, y, s, t, _⟩ => q8 t⟩⟩)
    · refine ok_f (by rw [show v8 = 1 from e8]; exact one_ne) ?_
      replace q9 : V f9 8 = sgR h b := q9
      replace q10 : V f10 8 = sgV h b := q10
      have hs0 : 1 ≤ V f10 8 := by rw [q10]; exact q8.2.2.2.1
      have hsN : V f10 8 < nN := by rw [q10]; exact q8.2.2.2.2
      have kq := q
      obtain ⟨kk, kx, kxl, kyl, kon, -, -⟩ := q
      have hon : onC (c 7) (some (c ((V f6 8 : Nat) : Int), c ((V f7 8 : Nat) : Int))) := by
        refine onN_c hc (decide_eq_true ?_)
        rw [kon, Nat.add_mod (V f6 8 * V f6 8 % pP * V f6 8 % pP), Nat.mod_mod, Nat.mod_mul_mod, ← Nat.add_mod]
      -- the rest, with e below n
      have rest : ∀ f11, V f11 8 % nN = beN hash 0 32 % nN → ok (xb_M_isSigned_e41_67 fu hash one n1 h u0 u1 u2 u3 f2 u5 f3 f4 f5 f6 f7 u11 u12 u13 u14 f9 f10 u17 f11 u19 u20 u21) (zK u0 (∃ x y, kS h a n x y ∧ sgA h b m ∧ edS c (beN hash 0 32) (sgR h b) (sgV h b) x y)) := by
        intro f11 he
        unfold xb_M_isSigned_e41_67
        refine ok_bd5 (v_M_inverse_s3x23 fu hfu u0 f10 u2 u3 u20 u21 u17 hs0 (pr_c nN_pr hs0 hsN)) (fun p1 p2 p3 p4 p5 r5 => ?_)
        replace r5 : iR (V f10 8) nN (V p5 8) 1 := r5
        refine ok_bd3 (v_M_timesN fu h600 u0 f9 p5 u1 f2 u19) (fun p6 p7 p8 r8 => ?_)
        replace r8 : V p8 8 = V f9 8 * V p5 8 % nN := r8
        refine ok_bd3 (v_M_timesN_e21 fu h600 u0 p5 p6 p7 f11) (fun p9 p10 p11 r11 => ?_)
        replace r11 : V p11 8 = V f11 8 * V p5 8 % nN := r11
        have d8 : dvN (sgR h b) (sgV h b) (V p8 8) := by rw [r8, ← q9, ← q10]; exact iN_d r5
        have d11 : dvN (beN hash 0 32) (sgV h b) (V p11 8) := by
          have := iN_d (e := V f11 8) r5
          rw [r11, ← q10]
          exact ⟨this.1, by rw [this.2, he]⟩
        have hC : (∃ x y, kS h a n x y ∧ sgA h b m ∧ edS c (beN hash 0 32) (sgR h b) (sgV h b) x y) ↔ gF c (gS c (some (c ((V f6 8 : Nat) : Int), c ((V f7 8 : Nat) : Int))) (V p11 8) (V p8 8) 0) (V f9 8) := by
          unfold gS
          rw [Nat.pow_zero, Nat.div_one, Nat.div_one, q9]
          constructor
          · intro ⟨x, y, s, t, a', b', da, db, hg⟩
            have sy : x = V f6 8 ∧ y = V f7 8 := kS_u s kq
            rw [sy.1, sy.2, dvN_u (by rw [← q10]; exact hs0) (by rw [← q10]; exact hsN) da d11, dvN_u (by rw [← q10]; exact hs0) (by rw [← q10]; exact hsN) db d8] at hg
            exact hg
          · intro hg
            exact ⟨V f6 8, V f7 8, kq, q8, V p11 8, V p8 8, d11, d8, hg⟩
        rw [hC]
        refine ok_bd1 (v_M_copy_s1x24 fu u13) (fun p12 r12 => ?_)
        refine ok_bd1 (v_M_copy_s1x25 fu u14) (fun p13 r13 => ?_)
        refine ok_bnd ?_
        have e12 : V p12 8 = V k24 8 := V_c r12
        have e13 : V p13 8 = V k25 8 := V_c r13
        have hz14 : upd u0 8 (0 : Int32) 8 = 0 := pk_us
        have ep : pt c (upd u0 8 (0 : Int32)) p12 p13 = gG c := by
          unfold pt gG
          rw [if_pos hz14, e12, e13]
        have fin : ∀ y0 : Int32, (y0 ≠ 0 → V k24 8 = V f6 8 ∧ V k25 8 = V f7 8) → (y0 = 0 → ¬ (V k24 8 = V f6 8 ∧ V k25 8 = V f7 8)) → ok (xb_M_isSigned_e41_179 fu hash one n1 h y0 (upd u0 8 (0 : Int32)) p9 p1 p2 p10 u5 f3 f4 f5 f6 f7 u11 u12 p12 p13 f9 f10 p5 p11 p8 p3 p4) (zK u0 (gF c (gS c (some (c ((V f6 8 : Nat) : Int), c ((V f7 8 : Nat) : Int))) (V p11 8) (V p8 8) 0) (V f9 8))) := by
          intro y0 hy1 hy0
          unfold xb_M_isSigned_e41_179
          refine ok_bd12 (j_join hc fu hfu f6 f7 y0 (upd u0 8 (0 : Int32)) p1 p2 p10 u5 f3 f4 f5 p12 p13 p3 p4 kxl kyl (by rw [e12]; exact V_24) (by rw [e13]; exact V_25) (Or.inl hz14) (by rw [ep]; exact gG_on hc) hon (fun g => ⟨hz14, by rw [e12]; exact (hy1 g).1, by rw [e13]; exact (hy1 g).2⟩) (fun g _ => by rw [e12, e13]; exact hy0 g)) (fun s1 s2 s3 s4 s5 s6 s7 s8 s9 s10 s11 s12 t => ?_)
          obtain ⟨t1, t2, t3, t4, t5⟩ := t
          replace t1 : ∀ j, j ≠ 8 → s1 j = upd u0 8 (0 : Int32) j := t1
          replace t2 : s1 8 = 0 ∨ s1 8 = 1 := t2
          replace t3 : V s9 8 < pP := t3
          replace t4 : V s10 8 < pP := t4
          replace t5 : pt c s1 s9 s10 = ea (pt c (upd u0 8 (0 : Int32)) p12 p13) (some (c ((V f6 8 : Nat) : Int), c ((V f7 8 : Nat) : Int))) := t5
          rw [ep] at t5
          refine ok_bd1 (v_M_copy fu s9 u11) (fun p14 r14 => ?_)
          refine ok_bd1 (v_M_copy fu s10 u12) (fun p15 r15 => ?_)
          refine ok_bnd ?_
          have h255 : (255 : Int32) = nI 256 + (-1) := by decide
          rw [h255]
          have e14 : V p14 8 = V s9 8 := V_c r14
          have e15 : V p15 8 = V s10 8 := V_c r15
          refine s_220 hc fu hfu hash one n1 h u0 (s1 8) f6 f7 p14 p15 f9 f10 p5 p11 p8 kxl kyl hon (fun g => ?_) (by rw [e14]; exact t3) (by rw [e15]; exact t4) (fun g => ?_) _ rfl 256 fu (upd s1 8 (1 : Int32)) p9 s2 s3 s4 s5 s6 s7 s8 s9 s10 s11 s12 (Nat.le_refl _) (Nat.le_trans (by decide) hfu) (fun j hj => ?_) (Or.inr pk_us) t3 t4 ?_
          · rw [← t5]; exact if_neg g
          · rw [← t5, e14, e15]; exact if_pos g
          · rw [pk_un hj, t1 j hj, pk_un hj]
          · have e0 : pt c (upd s1 8 (1 : Int32)) s9 s10 = none := by
              unfold pt
              rw [pk_us, if_neg one_ne]
            rw [e0]
            unfold gS
            rw [Nat.div_eq_of_lt (V8_lt p11), Nat.div_eq_of_lt (V8_lt p8)]
            rfl
        rw [v_M_compare_s0x24 fu h9, bd1_q]
        refine ok_ite (fun g => ?_) (fun g => ?_)
        · rw [v_M_compare_s0x25 fu h9, bd1_q]
          have g := (cmpN_eq _ _).mp g
          refine ok_ite (fun g2 => ?_) (fun g2 => ?_)
          · exact fin 1 (fun _ => ⟨g, (cmpN_eq _ _).mp g2⟩) (fun q => absurd q one_ne)
          · unfold xb_M_isSigned_e41_178
            exact fin 0 (fun q => absurd rfl q) (fun _ q => g2 ((cmpN_eq _ _).mpr q.2))
        · unfold xb_M_isSigned_e41_178
          exact fin 0 (fun q => absurd rfl q) (fun _ q => g ((cmpN_eq _ _).mpr q.1))
      rw [show (0 : Int32) = nI 0 from rfl, show (32 : Int32) = nI 32 from rfl]
      refine ok_bd1 (v_M_read fu 32 (by omega) (by decide) hash (a := 0) (n := 32) (by omega) (by omega) u18) (fun f11 q11 => ?_)
      rw [v_M_compare_s1x23 fu h9, bd1_q, V_23]
      refine ok_ite (fun g => ?_) (fun g => ?_)
      · exact rest f11 (by rw [q11])
      · obtain ⟨cc, f14, e14, hcc, h14⟩ := v_M_sub_e10s2x23 fu h9 f11
        rw [e14, bd2_q]
        rw [V_23] at h14
        refine rest f14 ?_
        rw [← q11]
        exact e_m h14 hcc (fun q => g ((cmpN_lt _ _).mpr q)) (V8_lt f11) (V8_lt f14) nN_T
