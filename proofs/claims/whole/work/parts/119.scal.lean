-- strict DER of the keeper's
def sgT (h : Nat → Int32) (a n : Nat) : Prop :=
  9 ≤ n ∧ n ≤ 73 ∧ h a = 48 ∧ h (a + 1) = nI (n - 3) ∧ 5 + By (h (a + 3)) < n ∧ By (h (a + 3)) + By (h (a + 5 + By (h (a + 3)))) + 7 = n ∧ (h (a + 2) = 2 ∧ whS h (a + 4) (By (h (a + 3)))) ∧ (h (a + 4 + By (h (a + 3))) = 2 ∧ whS h (a + 6 + By (h (a + 3))) (By (h (a + 5 + By (h (a + 3))))))
set_option maxHeartbeats 200000 in
theorem sgS_T {h : Nat → Int32} {a n : Nat} : sgS h a n ↔ sgT h a n ∧ h (a + n - 1) = 1 := by
  constructor
  · intro ⟨a1, a2, a3, a4, a5, a6, a7, a8, a9, a10, a11⟩
    exact ⟨⟨a1, a2, a3, a4, a6, a7, ⟨a5, a9⟩, a8, a10⟩, a11⟩
  · intro ⟨⟨a1, a2, a3, a4, a6, a7, ⟨a5, a9⟩, a8, a10⟩, a11⟩
    exact ⟨a1, a2, a3, a4, a5, a6, a7, a8, a9, a10, a11⟩
set_option maxHeartbeats 200000 in
theorem v_Si_isStrictNumber (fu : Nat) (n0 : Nat) (hn0 : n0 < 2 ^ 31) (h : Nat → Int32) {p n : Nat} (hp : p + 2 + n ≤ n0) (hp1 : p < n0) : ok (x_Si_isStrictNumber fu n0 h (nI p) (nI n)) (fun v => (v = 0 ∧ ¬ (h p = 2 ∧ whS h (p + 2) n)) ∨ (v = 1 ∧ h p = 2 ∧ whS h (p + 2) n)) := by
  unfold x_Si_isStrictNumber
  refine ok_gd (inb_nI hp1 hn0) (ok_bnd ?_)
  rw [nI_clamp (n := p) (by omega), show nI p + (2 : Int32) = nI (p + 2) from nI_add p 2, show nI p + (3 : Int32) = nI (p + 3) from nI_add p 3]
  refine ok_ite (fun c1 => ?_) (fun c1 => ok_some (Or.inl ⟨rfl, fun s => c1 s.1⟩))
  by_cases h0 : n = 0
  · subst h0
    exact ok_t (show nI 0 = 0 from nI_0) (ok_some (Or.inl ⟨rfl, fun s => absurd s.2.1 (Nat.lt_irrefl _)⟩))
  · refine ok_f (nI_ne0 (by omega) (by omega)) (ok_bnd (ok_gd (inb_nI (by omega) hn0) (ok_bnd ?_)))
    rw [nI_clamp (n := p + 2) (by omega)]
    refine ok_ite (fun g => ?_) (fun g => ok_some (Or.inl ⟨rfl, fun s => s.2.2.1 (Int32.not_le.mp g)⟩))
    have g' : ¬ h (p + 2) < 0 := Int32.not_lt.mpr g
    unfold xb_Si_isStrictNumber_42
    by_cases h1 : n = 1
    · subst h1
      exact ok_t (show nI 1 = (1 : Int32) from rfl) (ok_some (Or.inr ⟨rfl, c1, by omega, g', fun s => absurd s.1 (Nat.lt_irrefl _)⟩))
    · refine ok_f (show ¬ nI n = (1 : Int32) from fun q => h1 ((nI_eq (b := 1) (by omega) (by decide)).mp q)) (ok_bnd (ok_gd (inb_nI (by omega) hn0) (ok_bnd ?_)))
      rw [nI_clamp (n := p + 2) (by omega)]
      refine ok_ite (fun g1 => ?_) (fun g1 => ok_some (Or.inr ⟨rfl, c1, by omega, g', fun s => g1 s.2.1⟩))
      refine ok_bnd (ok_gd (inb_nI (by omega) hn0) (ok_bnd ?_))
      rw [nI_clamp (n := p + 3) (by omega)]
      exact ok_ite (fun g2 => ok_some (Or.inl ⟨rfl, fun s => s.2.2.2 ⟨by omega, g1, g2⟩⟩)) (fun g2 => ok_some (Or.inr ⟨rfl, c1, by omega, g', fun s => g2 s.2.2⟩))
set_option maxHeartbeats 1000000 in
theorem v_Si_isStrict (fu : Nat) (n0 : Nat) (hn0 : n0 < 2 ^ 31) (h : Nat → Int32) {a n : Nat} (ha : a + n ≤ n0) : ok (x_Si_isStrict fu n0 h (nI a) (nI n)) (fun v => (v = 0 ∧ ¬ sgT h a n) ∨ (v = 1 ∧ sgT h a n)) := by
  unfold x_Si_isStrict
  by_cases c1 : 9 ≤ n
  · refine ok_f (show ¬ nI n < (9 : Int32) from nI_nlt (b := 9) c1 (by omega)) ?_
    by_cases c2 : n ≤ 73
    · refine ok_f (show ¬ (73 : Int32) < nI n from nI_nlt (a := 73) c2 (by decide)) ?_
      refine ok_gd (inb_nI (by omega) (by omega)) (ok_bnd ?_)
      rw [nI_clamp (n := a) (by omega)]
      refine ok_ite (fun c3 => ?_) (fun c3 => ok_some (Or.inl ⟨rfl, fun s => c3 s.2.2.1⟩))
      rw [show nI a + (1 : Int32) = nI (a + 1) from nI_add a 1]
      refine ok_bnd (ok_gd (inb_nI (by omega) (by omega)) (ok_bnd ?_))
      rw [nI_clamp (n := a + 1) (by omega), show nI n - (3 : Int32) = nI (n - 3) from pk_sub (b := 3) (by omega)]
      refine ok_ite (fun c4 => ?_) (fun c4 => ok_some (Or.inl ⟨rfl, fun s => c4 s.2.2.2.1⟩))
      rw [show nI a + (3 : Int32) = nI (a + 3) from nI_add a 3]
      refine ok_bnd (ok_gd (inb_nI (by omega) (by omega)) (ok_bnd (ok_bnd (ok_bnd ?_))))
      rw [nI_clamp (n := a + 3) (by omega), and255]
      have hr := By_lt (h (a + 3))
      obtain ⟨R, hR⟩ : ∃ R, R = By (h (a + 3)) := ⟨_, rfl⟩
      rw [← hR, show (5 : Int32) + nI R = nI (5 + R) from nI_add 5 R]
      have eS : sgT h a n ↔ 9 ≤ n ∧ n ≤ 73 ∧ h a = 48 ∧ h (a + 1) = nI (n - 3) ∧ 5 + R < n ∧ R + By (h (a + 5 + R)) + 7 = n ∧ (h (a + 2) = 2 ∧ whS h (a + 4) R) ∧ (h (a + 4 + R) = 2 ∧ whS h (a + 6 + R) (By (h (a + 5 + R)))) := by rw [hR]; exact Iff.rfl
      rw [← hR] at hr
      rw [eS]
      by_cases c6 : 5 + R < n
      · refine ok_t (nI_lt c6 (by omega)) (ok_bnd (ok_bnd ?_))
        rw [show nI a + (5 : Int32) = nI (a + 5) from nI_add a 5, nI_add]
        refine ok_gd (inb_nI (by omega) (by omega)) (ok_bnd (ok_bnd (ok_bnd (ok_bnd ?_))))
        rw [nI_clamp (n := a + 5 + R) (by omega), and255, nI_add, show nI (R + By (h (a + 5 + R))) + (7 : Int32) = nI (R + By (h (a + 5 + R)) + 7) from nI_add _ 7]
        have hs := By_lt (h (a + 5 + R))
        generalize hS : By (h (a + 5 + R)) = S at *
        by_cases c7 : R + S + 7 = n
        · refine ok_t (by rw [c7]) (ok_bnd ?_)
          rw [show nI a + (2 : Int32) = nI (a + 2) from nI_add a 2]
          refine ok_bd1 (v_Si_isStrictNumber fu n0 hn0 h (p := a + 2) (n := R) (by omega) (by omega)) (fun v15 q15 => ?_)
          rcases q15 with ⟨e15, q15⟩ | ⟨e15, q15⟩
          · exact ok_t e15 (ok_some (Or.inl ⟨rfl, fun s => q15 s.2.2.2.2.2.2.1⟩))
          · refine ok_f (by rw [e15]; exact one_ne) (ok_bnd (ok_bnd ?_))
            rw [show nI a + (4 : Int32) = nI (a + 4) from nI_add a 4, nI_add]
            refine ok_bd1 (v_Si_isStrictNumber fu n0 hn0 h (p := a + 4 + R) (n := S) (by omega) (by omega)) (fun v18 q18 => ?_)
            rw [show a + 4 + R + 2 = a + 6 + R by omega] at q18
            rcases q18 with ⟨e18, q18⟩ | ⟨e18, q18⟩
            · exact ok_t e18 (ok_some (Or.inl ⟨rfl, fun s => q18 s.2.2.2.2.2.2.2⟩))
            · exact ok_f (by rw [e18]; exact one_ne) (ok_some (Or.inr ⟨rfl, c1, c2, c3, c4, c6, c7, q15, q18⟩))
        · exact ok_f (fun q => c7 ((nI_eq (by omega) (by omega)).mp q)) (ok_some (Or.inl ⟨rfl, fun s => c7 s.2.2.2.2.2.1⟩))
      · exact ok_f (nI_nlt (by omega) (by omega)) (ok_some (Or.inl ⟨rfl, fun s => c6 s.2.2.2.2.1⟩))
    · exact ok_t (show (73 : Int32) < nI n from nI_lt (a := 73) (by omega) (by omega)) (ok_some (Or.inl ⟨rfl, fun s => c2 s.2.1⟩))
  · exact ok_t (show nI n < (9 : Int32) from nI_lt (b := 9) (by omega) (by decide)) (ok_some (Or.inl ⟨rfl, fun s => c1 s.1⟩))
-- five limbs of a number without sign
def nv (h : Nat → Int64) (v : Nat) : Prop := nm h 5 ∧ Wv h 5 = (v : Int)
set_option maxHeartbeats 200000 in
theorem Wv_5 (h : Nat → Int64) : Wv h 5 = (h 0).toInt + (h 1).toInt * 2 ^ 52 + (h 2).toInt * 2 ^ 104 + (h 3).toInt * 2 ^ 156 + (h 4).toInt * 2 ^ 208 := by
  show 0 + (h 0).toInt * 2 ^ 0 + (h 1).toInt * 2 ^ 52 + (h 2).toInt * 2 ^ 104 + (h 3).toInt * 2 ^ 156 + (h 4).toInt * 2 ^ 208 = _
  generalize (h 0).toInt = a
  omega
set_option maxHeartbeats 200000 in
theorem nv_of {h : Nat → Int64} (h4 : nm h 4) {v : Nat} (hv : Wv h 5 = (v : Int)) (hl : v < 2 ^ 257) : nv h v := by
  refine ⟨fun i hi => ?_, hv⟩
  by_cases e : i = 4
  · subst e
    rw [Wv_5] at hv
    have a0 := h4 0 (by decide)
    have a1 := h4 1 (by decide)
    have a2 := h4 2 (by decide)
    have a3 := h4 3 (by decide)
    generalize (h 0).toInt = x0 at *
    generalize (h 1).toInt = x1 at *
    generalize (h 2).toInt = x2 at *
    generalize (h 3).toInt = x3 at *
    generalize (h 4).toInt = x4 at *
    omega
  · exact h4 i (by omega)
set_option maxHeartbeats 200000 in
theorem nv_sb {h : Nat → Int64} {v : Nat} (hv : nv h v) : sb h := fun i hi => by
  have := hv.1 i hi
  generalize (h i).toInt = a at *
  omega
set_option maxHeartbeats 200000 in
theorem nv_nm {h : Nat → Int64} {v : Nat} (hv : nv h v) : nm h 4 := fun i hi => hv.1 i (by omega)
set_option maxHeartbeats 200000 in
theorem nv_4 : nv k4 nN := nv_of nm_4.1 W_4 (Nat.lt_trans nN_T (by decide))
set_option maxHeartbeats 200000 in
theorem top_neg {h : Nat → Int64} {x : Int} (h4 : nm h 4) (hx : Wv h 5 = x) : 0 ≤ (h 4).toInt ↔ 0 ≤ x := by
  rw [Wv_5] at hx
  have a0 := h4 0 (by decide)
  have a1 := h4 1 (by decide)
  have a2 := h4 2 (by decide)
  have a3 := h4 3 (by decide)
  generalize (h 0).toInt = x0 at *
  generalize (h 1).toInt = x1 at *
  generalize (h 2).toInt = x2 at *
  generalize (h 3).toInt = x3 at *
  generalize (h 4).toInt = x4 at *
  omega
set_option maxHeartbeats 200000 in
theorem sb_of {h : Nat → Int64} {x : Int} (h4 : nm h 4) (hx : Wv h 5 = x) (h1 : -2 ^ 257 < x) (h2 : x < 2 ^ 257) : sb h := by
  intro i hi
  by_cases e : i = 4
  · subst e
    rw [Wv_5] at hx
    have a0 := h4 0 (by decide)
    have a1 := h4 1 (by decide)
    have a2 := h4 2 (by decide)
    have a3 := h4 3 (by decide)
    generalize (h 0).toInt = x0 at *
    generalize (h 1).toInt = x1 at *
    generalize (h 2).toInt = x2 at *
    generalize (h 3).toInt = x3 at *
    generalize (h 4).toInt = x4 at *
    omega
  · have := h4 i (by omega)
    generalize (h i).toInt = a at *
    omega
set_option maxHeartbeats 200000 in
theorem v_Sc_subtractModulo (fu : Nat) (hfu : 6 ≤ fu) (h1 w : Nat → Int64) {a b : Nat} (ha : nv w a) (hb : nv h1 b) (la : a < nN) (lb : b < nN) : ok (x_Sc_subtractModulo fu h1 w) (fun u => nv u ((a + (nN - b)) % nN)) := by
  unfold x_Sc_subtractModulo
  refine ok_bd1 (v_Sc_subtract fu hfu h1 w (nv_sb ha) (nv_sb hb)) (fun f1 q => ?_)
  obtain ⟨q1, q2⟩ := q
  rw [ha.2, hb.2] at q1
  have hN := nN_T
  have ht := top_neg q2 q1
  have hsb := sb_of q2 q1 (by generalize nN = N at *; omega) (by generalize nN = N at *; omega)
  rw [show (4 : Int32).toNatClampNeg = 4 by decide]
  refine ok_bnd (ok_ite (fun g => ok_some ?_) (fun g => ?_))
  · have g1 := ht.mp ((lg_0 _).2.mp g)
    refine nv_of q2 ?_ ?_
    · rw [q1, show a + (nN - b) = (a - b) + nN by omega, Nat.add_mod_right, Nat.mod_eq_of_lt (by omega)]
      omega
    · exact Nat.lt_of_lt_of_le (Nat.mod_lt _ (by omega)) (by generalize nN = N at *; omega)
  · have g1 : ¬ 0 ≤ (a : Int) - b := fun e => g ((lg_0 _).2.mpr (ht.mpr e))
    refine ok_bd1 (v_Sc_add_s1x4 fu hfu f1 hsb) (fun f3 q3 => ok_some ?_)
    obtain ⟨q3, q4⟩ := q3
    rw [q1, W_4] at q3
    refine nv_of q4 ?_ ?_
    · rw [q3, Nat.mod_eq_of_lt (by omega)]
      omega
    · exact Nat.lt_of_lt_of_le (Nat.mod_lt _ (by omega)) (by generalize nN = N at *; omega)
-- bits of 64
set_option maxHeartbeats 200000 in
theorem l_nn {x : Int64} (h : 0 ≤ x.toInt) : x = lN x.toInt.toNat ∧ x.toInt.toNat < 2 ^ 63 := by
  have hb := l_bd x
  have hlt : x.toInt.toNat < 2 ^ 63 := by omega
  refine ⟨Int64.toInt_inj.mp ?_, hlt⟩
  rw [pk_lT hlt]
  omega
set_option maxHeartbeats 200000 in
theorem lN_or {n a i : Nat} (hn : n < 2 ^ i) (ht : a * 2 ^ i + n < 2 ^ 64) : lN n ||| lN (a * 2 ^ i) = lN (n + a * 2 ^ i) := by
  apply l_inj
  show ((lN n).toBitVec ||| (lN (a * 2 ^ i)).toBitVec).toNat = _
  rw [BitVec.toNat_or, lN_nat (by omega), lN_nat (by omega), lN_nat (by omega), Nat.or_comm, Nat.mul_comm, ← Nat.two_pow_add_eq_or_of_lt hn, Nat.add_comm]
set_option maxHeartbeats 200000 in
theorem lN_shl {n k : Nat} (s : Int64) (hs : (s.toBitVec.smod 64).toNat = k) : lN n <<< s = lN (n * 2 ^ k) := by
  apply l_inj
  show ((lN n).toBitVec <<< (s.toBitVec.smod 64).toNat).toNat = _
  rw [hs, BitVec.toNat_shiftLeft, lN_bv, lN_bv, BitVec.toNat_ofNat, BitVec.toNat_ofNat, Nat.shiftLeft_eq, Nat.mod_mul_mod]
def hl (x y : Int64) : Int64 := (x >>> ((1 : Int32).toInt64 &&& 63)) ||| ((y &&& (1 : Int64)) <<< ((51 : Int32).toInt64 &&& 63))
set_option maxHeartbeats 200000 in
theorem hl_i {x y : Int64} (hx : 0 ≤ x.toInt ∧ x.toInt < 2 ^ 52) : (hl x y).toInt = x.toInt / 2 + y.toInt % 2 * 2 ^ 51 := by
  unfold hl
  have e1 : (x >>> ((1 : Int32).toInt64 &&& 63)).toInt = x.toInt / 2 ^ 1 := l_s1 x
  have e2 : (y &&& (1 : Int64)).toInt = y.toInt % 2 ^ 1 := l_a1 y
  obtain ⟨n1, m1⟩ := l_nn (x := x >>> ((1 : Int32).toInt64 &&& 63)) (by rw [e1]; omega)
  obtain ⟨n2, m2⟩ := l_nn (x := y &&& (1 : Int64)) (by rw [e2]; omega)
  rw [e1] at n1 m1
  rw [e2] at n2 m2
  rw [n1, n2, lN_shl (k := 51) _ (by decide), lN_or (i := 51) (by omega) (by omega), pk_lT (by omega)]
  omega
set_option maxHeartbeats 200000 in
theorem hv_1 {x0 x1 x2 x3 x4 : Int} (a0 : 0 ≤ x0 ∧ x0 < 2 ^ 52) (a1 : 0 ≤ x1 ∧ x1 < 2 ^ 52) (a2 : 0 ≤ x2 ∧ x2 < 2 ^ 52) (a3 : 0 ≤ x3 ∧ x3 < 2 ^ 52) (a4 : 0 ≤ x4) : (x0 / 2 + x1 % 2 * 2 ^ 51) + (x1 / 2 + x2 % 2 * 2 ^ 51) * 2 ^ 52 + (x2 / 2 + x3 % 2 * 2 ^ 51) * 2 ^ 104 + (x3 / 2 + x4 % 2 * 2 ^ 51) * 2 ^ 156 + x4 / 2 * 2 ^ 208 = (x0 + x1 * 2 ^ 52 + x2 * 2 ^ 104 + x3 * 2 ^ 156 + x4 * 2 ^ 208) / 2 := by
  omega
set_option maxHeartbeats 200000 in
theorem s_Sc_halve (fu n j : Nat) (hj : j < 4) (u : Nat → Int64) : x_Sc_halve_2 fu (n + 1) (nI j) u = x_Sc_halve_2 fu n (nI (j + 1)) (vp_updL u j (hl (u j) (u (j + 1)))) := by
  show xb_Sc_halve_2 fu (x_Sc_halve_2 fu n) (nI j) u = _
  unfold xb_Sc_halve_2
  rw [if_neg (show ¬ (4 : Int32) ≤ nI j from nI_ge (b := 4) (by omega) (by decide)), gd_t (inb_nI (by omega) (by decide)), bnd_q, bnd_q, bnd_q, nI_1, gd_t (inb_nI (by omega) (by decide)), bnd_q, bnd_q, bnd_q, gd_t (inb_nI (by omega) (by decide)), bnd_q, bnd_q, nI_clamp (n := j) (by omega), nI_clamp (n := j + 1) (by omega)]
  rfl
set_option maxHeartbeats 200000 in
theorem v_Sc_halve (fu : Nat) (hfu : 6 ≤ fu) (w : Nat → Int64) {a : Nat} (ha : nv w a) : ok (x_Sc_halve fu w) (fun u => nv u (a / 2)) := by
  unfold x_Sc_halve
  obtain ⟨n, hn⟩ : ∃ n, fu = n + 1 + 1 + 1 + 1 + 1 := ⟨fu - 5, by omega⟩
  have e : x_Sc_halve_2 fu fu (0 : Int32) w = x_Sc_halve_2 fu (n + 1) (nI 4) (vp_updL (vp_updL (vp_updL (vp_updL w 0 (hl (w 0) (w 1))) 1 (hl (w 1) (w 2))) 2 (hl (w 2) (w 3))) 3 (hl (w 3) (w 4))) := by
    have e0 : x_Sc_halve_2 fu fu (0 : Int32) w = x_Sc_halve_2 fu (n + 1 + 1 + 1 + 1 + 1) (nI 0) w := by rw [nI_0, ← hn]
    rw [e0, s_Sc_halve fu _ 0 (by decide), s_Sc_halve fu _ 1 (by decide), s_Sc_halve fu _ 2 (by decide), s_Sc_halve fu _ 3 (by decide)]
    rfl
  refine ok_eq e ?_
  have hf : ∀ f : Nat → Int64, ok (x_Sc_halve_2 fu (n + 1) (nI 4) f) (fun u => u = vp_updL f 4 (f 4 >>> ((1 : Int32).toInt64 &&& 63))) := by
    intro f
    show ok (xb_Sc_halve_2 fu (x_Sc_halve_2 fu n) (nI 4) f) _
    unfold xb_Sc_halve_2
    refine ok_t (show (4 : Int32) ≤ nI 4 from by decide) (ok_bnd (ok_bnd (ok_bnd (ok_some ?_))))
    rw [show (4 : Int32).toNatClampNeg = 4 by decide]
  refine ok_mono (hf _) (fun u hu => ?_)
  obtain ⟨hn5, hv⟩ := ha
  have a0 := hn5 0 (by decide)
  have a1 := hn5 1 (by decide)
  have a2 := hn5 2 (by decide)
  have a3 := hn5 3 (by decide)
  have a4 := hn5 4 (by decide)
  have r0 : (u 0).toInt = (w 0).toInt / 2 + (w 1).toInt % 2 * 2 ^ 51 := by
    rw [hu, pk_uLn (by decide), pk_uLn (by decide), pk_uLn (by decide), pk_uLn (by decide), pk_uLs, hl_i a0]
  have r1 : (u 1).toInt = (w 1).toInt / 2 + (w 2).toInt % 2 * 2 ^ 51 := by
    rw [hu, pk_uLn (by decide), pk_uLn (by decide), pk_uLn (by decide), pk_uLs, hl_i a1]
  have r2 : (u 2).toInt = (w 2).toInt / 2 + (w 3).toInt % 2 * 2 ^ 51 := by
    rw [hu, pk_uLn (by decide), pk_uLn (by decide), pk_uLs, hl_i a2]
  have r3 : (u 3).toInt = (w 3).toInt / 2 + (w 4).toInt % 2 * 2 ^ 51 := by
    rw [hu, pk_uLn (by decide), pk_uLs, hl_i a3]
  have r4 : (u 4).toInt = (w 4).toInt / 2 := by
    rw [hu, pk_uLs, l_s1, pk_uLn (by decide), pk_uLn (by decide), pk_uLn (by decide), pk_uLn (by decide)]
    rfl
  refine ⟨fun i hi => ?_, ?_⟩
  · have : i = 0 ∨ i = 1 ∨ i = 2 ∨ i = 3 ∨ i = 4 := by omega
    rcases this with rfl | rfl | rfl | rfl | rfl
    · rw [r0]; omega
    · rw [r1]; omega
    · rw [r2]; omega
    · rw [r3]; omega
    · rw [r4]; omega
  · rw [Wv_5, r0, r1, r2, r3, r4, hv_1 a0 a1 a2 a3 a4.1, ← Wv_5, hv]
    omega
set_option maxHeartbeats 200000 in
theorem nv_low {w : Nat → Int64} {a : Nat} (ha : nv w a) : (w 0).toInt % 2 = (a : Int) % 2 := by
  have h := ha.2
  rw [Wv_5] at h
  omega
set_option maxHeartbeats 200000 in
theorem v_Sc_halveModulo (fu : Nat) (hfu : 6 ≤ fu) (w : Nat → Int64) {a : Nat} (ha : nv w a) (la : a < nN) : ok (x_Sc_halveModulo fu w) (fun u => nv u (if a % 2 = 0 then a / 2 else (a + nN) / 2)) := by
  unfold x_Sc_halveModulo
  have hl := nv_low ha
  have hN := nN_T
  rw [show (0 : Int32).toNatClampNeg = 0 by decide]
  refine ok_bnd (ok_bnd (ok_ite (fun g => ?_) (fun g => ?_)))
  · have g1 := (lg_0 _).1.mp g
    rw [l_a1] at g1
    rw [if_pos (by omega)]
    unfold xb_Sc_halveModulo_17
    exact ok_bd1 (v_Sc_halve fu hfu w ha) (fun f q => ok_some q)
  · have g1 : ¬ (w 0).toInt % 2 ^ 1 = 0 := fun e => g ((lg_0 _).1.mpr (by rw [l_a1]; exact e))
    rw [if_neg (by omega)]
    refine ok_bd1 (v_Sc_add_s1x4 fu hfu w (nv_sb ha)) (fun f3 q3 => ?_)
    obtain ⟨q3, q4⟩ := q3
    rw [ha.2, W_4] at q3
    have n3 : nv f3 (a + nN) := nv_of q4 (by rw [q3]; omega) (by generalize nN = N at *; omega)
    unfold xb_Sc_halveModulo_17
    exact ok_bd1 (v_Sc_halve fu hfu f3 n3) (fun f q => ok_some q)
set_option maxHeartbeats 200000 in
theorem lor_0 (x y : Int64) : x ||| y = 0 ↔ x = 0 ∧ y = 0 := by
  constructor
  · intro h
    have h1 : (x.toBitVec ||| y.toBitVec) = 0#64 := congrArg Int64.toBitVec h
    have h2 := BitVec.or_eq_zero_iff.mp h1
    exact ⟨Int64.toBitVec_inj.mp h2.1, Int64.toBitVec_inj.mp h2.2⟩
  · rintro ⟨rfl, rfl⟩
    rfl
set_option maxHeartbeats 200000 in
theorem v_Sc_isZero (fu : Nat) (w : Nat → Int64) {a : Nat} (ha : nv w a) : x_Sc_isZero fu w = some (if a = 0 then 1 else 0) := by
  unfold x_Sc_isZero
  rw [bnd_q, bnd_q, bnd_q, bnd_q, bnd_q, bnd_q, bnd_q, bnd_q, bnd_q, show (0 : Int32).toNatClampNeg = 0 by decide, show (1 : Int32).toNatClampNeg = 1 by decide, show (2 : Int32).toNatClampNeg = 2 by decide, show (3 : Int32).toNatClampNeg = 3 by decide, show (4 : Int32).toNatClampNeg = 4 by decide]
  have hz : (lg_cmp (w 0 ||| w 1 ||| w 2 ||| w 3 ||| w 4) 0 = 0) ↔ a = 0 := by
    rw [(lg_0 _).1]
    have e : ((w 0 ||| w 1 ||| w 2 ||| w 3 ||| w 4).toInt = 0) ↔ (w 0 ||| w 1 ||| w 2 ||| w 3 ||| w 4) = 0 := ⟨fun h => Int64.toInt_inj.mp h, fun h => by rw [h]; rfl⟩
    have z : ∀ x : Int64, x = 0 ↔ x.toInt = 0 := fun x => ⟨fun h => by rw [h]; rfl, fun h => Int64.toInt_inj.mp h⟩
    rw [e, lor_0, lor_0, lor_0, lor_0, z, z, z, z, z]
    obtain ⟨hn5, hv⟩ := ha
    have a0 := hn5 0 (by decide)
    have a1 := hn5 1 (by decide)
    have a2 := hn5 2 (by decide)
    have a3 := hn5 3 (by decide)
    have a4 := hn5 4 (by decide)
    rw [Wv_5] at hv
    omega
  by_cases g : a = 0
  · rw [if_pos (hz.mpr g), if_pos g]
  · rw [if_neg (fun q => g (hz.mp q)), if_neg g]
