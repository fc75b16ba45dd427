/-- a signature in strict DER, with the byte 1 behind it -/
def sgS (h : Nat → Int32) (a n : Nat) : Prop :=
  9 ≤ n ∧ n ≤ 73 ∧ h a = 48 ∧ h (a + 1) = nI (n - 3) ∧ h (a + 2) = 2 ∧ 5 + By (h (a + 3)) < n ∧ By (h (a + 3)) + By (h (a + 5 + By (h (a + 3)))) + 7 = n ∧ h (a + 4 + By (h (a + 3))) = 2 ∧
  whS h (a + 4) (By (h (a + 3))) ∧ whS h (a + 6 + By (h (a + 3))) (By (h (a + 5 + By (h (a + 3))))) ∧ h (a + n - 1) = 1
def sgR (h : Nat → Int32) (a : Nat) : Nat := beN h (a + 4) (By (h (a + 3)))
def sgV (h : Nat → Int32) (a : Nat) : Nat := beN h (a + 6 + By (h (a + 3))) (By (h (a + 5 + By (h (a + 3)))))
def sgA (h : Nat → Int32) (a n : Nat) : Prop := sgS h a n ∧ scS h (a + 4) (By (h (a + 3))) ∧ scS h (a + 6 + By (h (a + 3))) (By (h (a + 5 + By (h (a + 3)))))
set_option maxHeartbeats 2000000 in
theorem v_M_isSignature (fu : Nat) (hfu : 40 ≤ fu) (z : Nat → Int32) (n1 : Nat) (hn1 : n1 < 2 ^ 31) (h : Nat → Int32) {a n : Nat} (ha : a + n ≤ n1) (u0 u1 : Nat → Int32) : ok (x_M_isSignature fu z n1 h (nI a) (nI n) u0 u1) (fun r => (r.1 = 0 ∧ ¬ sgA h a n) ∨ (r.1 = 1 ∧ sgA h a n ∧ V r.2.1 8 = sgR h a ∧ V r.2.2 8 = sgV h a)) := by
  unfold x_M_isSignature
  by_cases c1 : 9 ≤ n
  · refine ok_f (show ¬ nI n < (9 : Int32) from nI_nlt (b := 9) c1 (by omega)) ?_
    by_cases c2 : n ≤ 73
    · refine ok_f (show ¬ (73 : Int32) < nI n from nI_nlt (a := 73) c2 (by decide)) ?_
      refine ok_gd (inb_nI (by omega) (by omega)) (ok_bnd ?_)
      rw [nI_clamp (n := a) (by omega)]
      refine ok_ite (fun c3 => ?_) (fun c3 => ok_some (Or.inl ⟨rfl, fun s => c3 s.1.2.2.1⟩))
      rw [show nI a + (1 : Int32) = nI (a + 1) from nI_add a 1]
      refine ok_bnd (ok_gd (inb_nI (by omega) (by omega)) (ok_bnd ?_))
      rw [nI_clamp (n := a + 1) (by omega), show nI n - (3 : Int32) = nI (n - 3) from pk_sub (b := 3) (by omega)]
      refine ok_ite (fun c4 => ?_) (fun c4 => ok_some (Or.inl ⟨rfl, fun s => c4 s.1.2.2.2.1⟩))
      rw [show nI a + (2 : Int32) = nI (a + 2) from nI_add a 2]
      refine ok_bnd (ok_gd (inb_nI (by omega) (by omega)) (ok_bnd ?_))
      rw [nI_clamp (n := a + 2) (by omega)]
      refine ok_ite (fun c5 => ?_) (fun c5 => ok_some (Or.inl ⟨rfl, fun s => c5 s.1.2.2.2.2.1⟩))
      rw [show nI a + (3 : Int32) = nI (a + 3) from nI_add a 3]
      refine ok_bnd (ok_gd (inb_nI (by omega) (by omega)) (ok_bnd (ok_bnd (ok_bnd ?_))))
      rw [nI_clamp (n := a + 3) (by omega), and255]
      have hr := By_lt (h (a + 3))
      obtain ⟨R, hR⟩ : ∃ R, R = By (h (a + 3)) := ⟨_, rfl⟩
      rw [← hR, show (5 : Int32) + nI R = nI (5 + R) from nI_add 5 R]
      have eA : sgA h a n ↔ sgS h a n ∧ scS h (a + 4) R ∧ scS h (a + 6 + R) (By (h (a + 5 + R))) := by rw [hR]; exact Iff.rfl
      have eS : sgS h a n ↔ 9 ≤ n ∧ n ≤ 73 ∧ h a = 48 ∧ h (a + 1) = nI (n - 3) ∧ h (a + 2) = 2 ∧ 5 + R < n ∧ R + By (h (a + 5 + R)) + 7 = n ∧ h (a + 4 + R) = 2 ∧ whS h (a + 4) R ∧ whS h (a + 6 + R) (By (h (a + 5 + R))) ∧ h (a + n - 1) = 1 := by rw [hR]; exact Iff.rfl
      have eR : sgR h a = beN h (a + 4) R := by rw [hR]; rfl
      have eV : sgV h a = beN h (a + 6 + R) (By (h (a + 5 + R))) := by rw [hR]; rfl
      rw [← hR] at hr
      rw [eR, eV, eA, eS]
      by_cases c6 : 5 + R < n
      · refine ok_t (nI_lt c6 (by omega)) (ok_bnd (ok_bnd ?_))
        rw [show nI a + (5 : Int32) = nI (a + 5) from nI_add a 5, nI_add]
        refine ok_gd (inb_nI (by omega) (by omega)) (ok_bnd (ok_bnd (ok_bnd (ok_bnd ?_))))
        rw [nI_clamp (n := a + 5 + R) (by omega), and255, nI_add, show nI (R + By (h (a + 5 + R))) + (7 : Int32) = nI (R + By (h (a + 5 + R)) + 7) from nI_add _ 7]
        have hs := By_lt (h (a + 5 + R))
        generalize hS : By (h (a + 5 + R)) = S at *
        by_cases c7 : R + S + 7 = n
        · refine ok_t (by rw [c7]) (ok_bnd (ok_bnd ?_))
          rw [show nI a + (4 : Int32) = nI (a + 4) from nI_add a 4, nI_add]
          refine ok_gd (inb_nI (by omega) (by omega)) (ok_bnd ?_)
          rw [nI_clamp (n := a + 4 + R) (by omega)]
          refine ok_ite (fun c8 => ?_) (fun c8 => ok_some (Or.inl ⟨rfl, fun s => c8 s.1.2.2.2.2.2.2.2.1⟩))
          refine ok_bnd (ok_bd1 (v_M_isWhole fu z n1 hn1 h (a := a + 4) (n := R) (by omega)) (fun v20 q20 => ?_))
          rcases q20 with ⟨e20, q20⟩ | ⟨e20, q20⟩
          · exact ok_t e20 (ok_some (Or.inl ⟨rfl, fun s => q20 s.1.2.2.2.2.2.2.2.2.1⟩))
          · refine ok_f (by rw [e20]; exact one_ne) (ok_bnd (ok_bnd ?_))
            rw [show nI a + (6 : Int32) = nI (a + 6) from nI_add a 6, nI_add]
            refine ok_bd1 (v_M_isWhole fu z n1 hn1 h (a := a + 6 + R) (n := S) (by omega)) (fun v23 q23 => ?_)
            rcases q23 with ⟨e23, q23⟩ | ⟨e23, q23⟩
            · exact ok_t e23 (ok_some (Or.inl ⟨rfl, fun s => q23 s.1.2.2.2.2.2.2.2.2.2.1⟩))
            · refine ok_f (by rw [e23]; exact one_ne) (ok_bnd (ok_bnd ?_))
              rw [nI_add, show nI (a + n) - (1 : Int32) = nI (a + n - 1) from pk_sub (b := 1) (by omega)]
              refine ok_gd (inb_nI (by omega) (by omega)) (ok_bnd ?_)
              rw [nI_clamp (n := a + n - 1) (by omega)]
              refine ok_ite (fun c11 => ?_) (fun c11 => ok_some (Or.inl ⟨rfl, fun s => c11 s.1.2.2.2.2.2.2.2.2.2.2⟩))
              refine ok_bnd (ok_bd2 (v_M_isScalar fu hfu z n1 hn1 h (a := a + 4) (n := R) (by omega) u0) (fun v28 f29 q28 => ?_))
              rcases q28 with ⟨e28, q28⟩ | ⟨e28, q28, q29⟩
              · exact ok_t e28 (ok_some (Or.inl ⟨rfl, fun s => q28 s.2.1⟩))
              · refine ok_f (by rw [show v28 = 1 from e28]; exact one_ne) (ok_bnd (ok_bnd ?_))
                rw [nI_add]
                refine ok_bd2 (v_M_isScalar fu hfu z n1 hn1 h (a := a + 6 + R) (n := S) (by omega) u1) (fun v32 f33 q32 => ?_)
                rcases q32 with ⟨e32, q32⟩ | ⟨e32, q32, q33⟩
                · exact ok_t e32 (ok_some (Or.inl ⟨rfl, fun s => q32 s.2.2⟩))
                · refine ok_f (by rw [show v32 = 1 from e32]; exact one_ne) (ok_some (Or.inr ⟨rfl, ⟨⟨c1, c2, c3, c4, c5, c6, c7, c8, q20, q23, c11⟩, q28, q32⟩, q29, q33⟩))
        · exact ok_f (fun q => c7 ((nI_eq (by omega) (by omega)).mp q)) (ok_some (Or.inl ⟨rfl, fun s => c7 s.1.2.2.2.2.2.2.1⟩))
      · exact ok_f (nI_nlt (by omega) (by omega)) (ok_some (Or.inl ⟨rfl, fun s => c6 s.1.2.2.2.2.2.1⟩))
    · exact ok_t (show (73 : Int32) < nI n from nI_lt (a := 73) (by omega) (by omega)) (ok_some (Or.inl ⟨rfl, fun s => c2 s.1.2.1⟩))
  · exact ok_t (show nI n < (9 : Int32) from nI_lt (b := 9) (by omega) (by decide)) (ok_some (Or.inl ⟨rfl, fun s => c1 s.1.1⟩))
-- a public key
def kS (h : Nat → Int32) (a n x y : Nat) : Prop :=
  ((n = 33 ∧ (h a = 2 ∨ h a = 3)) ∨ (n = 65 ∧ h a = 4)) ∧ x = beN h (a + 1) 32 ∧ x < pP ∧ y < pP ∧ y * y % pP = (x * x % pP * x % pP + 7) % pP ∧ (n = 65 → y = beN h (a + 33) 32) ∧ (n = 33 → nI (y % 2) = h a &&& 1)
-- no x has x x x + 7 = 0
set_option maxHeartbeats 200000 in
theorem cub {x : Nat} : (x * x % pP * x % pP + 7) % pP ≠ 0 := by
  intro h
  have hp := pP_pr
  have h1 : (x * x * x + 7) % pP = 0 := by
    rw [← h]
    rw [Nat.add_mod (x * x % pP * x % pP), Nat.mod_mod, Nat.mod_mul_mod, ← Nat.add_mod]
  have hx : ¬ pP ∣ x := by
    intro g
    have g1 : pP ∣ x * x * x := Nat.dvd_trans g (Nat.dvd_mul_left x (x * x))
    have g2 := Nat.dvd_of_mod_eq_zero h1
    have g3 := (Nat.dvd_add_right g1).mp g2
    have := Nat.le_of_dvd (by decide) g3
    exact absurd pP_7 (Nat.not_lt_of_le this)
  have f := fer1 hp hx
  have h2 : (x * x * x) % pP = (pP - 7) % pP := by
    have h7 := pP_7
    have k1 := Nat.dvd_of_mod_eq_zero h1
    obtain ⟨q, hq⟩ := k1
    have q0 : 0 < q := Nat.pos_of_ne_zero (fun e => by rw [e, Nat.mul_zero] at hq; omega)
    obtain ⟨q, rfl⟩ : ∃ r, q = r + 1 := ⟨q - 1, by omega⟩
    rw [Nat.mul_add, Nat.mul_one] at hq
    rw [show x * x * x = pP - 7 + pP * q by generalize pP * q = X at *; generalize x * x * x = Y at *; omega, Nat.add_mul_mod_self_left]
  have e3 : (x * x * x) ^ ((pP - 1) / 3) % pP = 1 := by
    have : x * x * x = x ^ 3 := by
      show x * x * x = x ^ 2 * x
      rw [Nat.pow_two]
    rw [this, ← Nat.pow_mul, show 3 * ((pP - 1) / 3) = pP - 1 by decide +kernel]
    exact f
  rw [Nat.pow_mod, h2, ← Nat.pow_mod, ← pm_e pP 256 (pP - 7) ((pP - 1) / 3) (by decide +kernel)] at e3
  exact absurd e3 (by decide +kernel)
