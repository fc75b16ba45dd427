-- the field of p elements
noncomputable def iv (p : Nat) [NeZero p] (a : Fin p) : Fin p := @dite _ (∃ b, a * b = 1) (Classical.propDecidable _) (fun h => Classical.choose h) (fun _ => 0)
set_option maxHeartbeats 200000 in
theorem iv_m {p : Nat} [NeZero p] {a : Fin p} (h : ∃ b, a * b = 1) : a * iv p a = 1 := by
  unfold iv
  rw [dif_pos h]
  exact Classical.choose_spec h
set_option maxHeartbeats 200000 in
theorem iv_0 {p : Nat} [NeZero p] {a : Fin p} (h : ¬ ∃ b, a * b = 1) : iv p a = 0 := by
  unfold iv
  rw [dif_neg h]
noncomputable def zp (p : Nat) [NeZero p] (a : Fin p) : Int → Fin p
  | .ofNat n => a ^ n
  | .negSucc n => iv p (a ^ (n + 1))
set_option maxHeartbeats 200000 in
theorem iv_iv {p : Nat} [NeZero p] (h : ∀ a : Fin p, a ≠ 0 → ∃ b, a * b = 1) (h01 : (0 : Fin p) ≠ 1) (a : Fin p) : iv p (iv p a) = a := by
  by_cases g : ∃ b, a * b = 1
  · have h1 := iv_m g
    have h2 : ∃ b, iv p a * b = 1 := ⟨a, by rw [Lean.Grind.Fin.mul_comm]; exact h1⟩
    have h3 := iv_m h2
    generalize iv p a = x at *
    generalize iv p x = y at *
    grind
  · have g0 : a = 0 := Classical.byContradiction (fun e => g (h a e))
    rw [iv_0 g, g0]
    refine iv_0 ?_
    intro ⟨b, hb⟩
    rw [Lean.Grind.Fin.zero_mul] at hb
    exact h01 hb
set_option maxHeartbeats 200000 in
theorem iv_1 {p : Nat} [NeZero p] : iv p (1 : Fin p) = 1 := by
  have h := iv_m (a := (1 : Fin p)) ⟨1, Lean.Grind.Fin.mul_one 1⟩
  generalize iv p (1 : Fin p) = x at *
  grind
noncomputable def mkF (p : Nat) [NeZero p] (h : ∀ a : Fin p, a ≠ 0 → ∃ b, a * b = 1) (h01 : (0 : Fin p) ≠ 1) : Lean.Grind.Field (Fin p) :=
  { (inferInstance : Lean.Grind.CommRing (Fin p)) with
    inv := iv p
    div := fun a b => a * iv p b
    zpow := ⟨fun a n => zp p a n⟩
    div_eq_mul_inv := fun _ _ => rfl
    zero_ne_one := h01
    inv_zero := iv_0 (fun ⟨b, hb⟩ => by
      rw [Lean.Grind.Fin.zero_mul] at hb
      exact h01 hb)
    mul_inv_cancel := fun {a} ha => iv_m (h a ha)
    zpow_zero := fun a => rfl
    zpow_succ := fun a n => rfl
    zpow_neg := fun a n => by
      cases n with
      | ofNat n =>
        cases n with
        | zero => exact iv_1.symm
        | succ n => rfl
      | negSucc n => exact (iv_iv h h01 _).symm }
/-- the numbers in a field where p is 0 -/
def cH {F : Type} [Lean.Grind.Field F] (p : Nat) (c : Int → F) : Prop :=
  (∀ a b, c (a + b) = c a + c b) ∧ (∀ a b, c (a * b) = c a * c b) ∧ c 1 = 1 ∧ (∀ a b, c a = c b ↔ (p : Int) ∣ a - b) ∧ ∀ x, ∃ n : Nat, n < p ∧ c n = x
set_option maxHeartbeats 200000 in
theorem fin_e {p : Nat} [NeZero p] (a : Int) : ((Fin.ofNat p (a % p).toNat : Fin p).val : Int) = a % p := by
  have hp : (p : Int) ≠ 0 := by
    have := NeZero.ne p
    omega
  show (((a % p).toNat % p : Nat) : Int) = a % p
  have h1 := Int.emod_nonneg a hp
  have h2 := Int.emod_lt_of_pos a (show 0 < (p : Int) by omega)
  rw [Nat.mod_eq_of_lt (by omega)]
  omega
set_option maxHeartbeats 200000 in
theorem fin_x {p : Nat} {a b : Fin p} (h : (a.val : Int) = b.val) : a = b := Fin.ext (by omega)
set_option maxHeartbeats 200000 in
theorem mkH {p : Nat} (hp : pr p) : ∃ (F : Type) (I : Lean.Grind.Field F) (D : DecidableEq F) (c : Int → F), @cH F I p c := by
  have h1 := hp.1
  have : NeZero p := ⟨by omega⟩
  have h01 : (0 : Fin p) ≠ 1 := by
    intro e
    have := congrArg Fin.val e
    have e1 : (1 : Fin p).val = 1 % p := rfl
    have e0 : (0 : Fin p).val = 0 := rfl
    rw [e0, e1, Nat.mod_eq_of_lt h1] at this
    omega
  have h : ∀ a : Fin p, a ≠ 0 → ∃ b, a * b = 1 := by
    intro a ha
    have ha0 : 0 < a.val := Nat.pos_of_ne_zero (fun e => ha (Fin.ext e))
    have hc : Nat.Coprime a.val p := (pr_cp hp (fun hd => by
      have := Nat.le_of_dvd ha0 hd
      have := a.isLt
      omega)).symm
    obtain ⟨x, y, hxy⟩ := bz p a.val ha0 (by omega) hc
    refine ⟨Fin.ofNat p x, Fin.ext ?_⟩
    show a.val * (x % p) % p = 1 % p
    rw [Nat.mul_mod_mod, Nat.mul_comm, hxy, Nat.add_mul_mod_self_right]
  refine ⟨Fin p, mkF p h h01, inferInstance, fun a => Fin.ofNat p (a % p).toNat, ?_, ?_, ?_, ?_, ?_⟩
  · intro a b
    refine fin_x ?_
    rw [fin_e]
    show (a + b) % p = (((Fin.ofNat p (a % p).toNat).val + (Fin.ofNat p (b % p).toNat).val) % p : Nat)
    rw [Int.natCast_emod, Int.natCast_add, fin_e, fin_e, ← Int.add_emod]
  · intro a b
    refine fin_x ?_
    rw [fin_e]
    show (a * b) % p = (((Fin.ofNat p (a % p).toNat).val * (Fin.ofNat p (b % p).toNat).val) % p : Nat)
    rw [Int.natCast_emod, Int.natCast_mul, fin_e, fin_e, ← Int.mul_emod]
  · refine fin_x ?_
    rw [fin_e]
    show (1 : Int) % p = ((1 % p : Nat) : Int)
    rfl
  · intro a b
    constructor
    · intro e
      have h2 := congrArg (fun x : Fin p => (x.val : Int)) e
      simp only [fin_e] at h2
      exact Int.dvd_of_emod_eq_zero (Int.emod_eq_emod_iff_emod_sub_eq_zero.mp h2)
    · intro e
      refine fin_x ?_
      rw [fin_e, fin_e]
      exact Int.emod_eq_emod_iff_emod_sub_eq_zero.mpr (Int.emod_eq_zero_of_dvd e)
  · intro x
    refine ⟨x.val, x.isLt, fin_x ?_⟩
    rw [fin_e]
    exact Int.emod_eq_of_lt (by omega) (by have := x.isLt; omega)
