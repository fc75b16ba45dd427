-- what an Option-function answers
def ok {α : Type} (x : Option α) (P : α → Prop) : Prop := ∃ r, x = some r ∧ P r
theorem ok_some {α : Type} {r : α} {P : α → Prop} (h : P r) : ok (some r) P := ⟨r, rfl, h⟩
theorem ok_gd {α : Type} {b : Bool} {x : Option α} {P : α → Prop} (h : b = true) (hx : ok x P) : ok (gd b x) P := by
  rw [gd_t h]; exact hx
theorem ok_bnd {α β : Type} {e : α} {k : α → Option β} {P : β → Prop} (h : ok (k e) P) : ok (bnd e k) P := h
theorem ok_bn {α β : Type} {e e' : α} {k : α → Option β} {P : β → Prop} (he : e = e') (h : ok (k e') P) : ok (bnd e k) P := by
  subst he; exact h
theorem ok_bv {α β : Type} {e : α} {k : α → Option β} {P : β → Prop} (h : ∀ v, v = e → ok (k v) P) : ok (bnd e k) P := h e rfl
theorem ok_ite {α : Type} {c : Prop} [Decidable c] {x y : Option α} {P : α → Prop} (h1 : c → ok x P) (h2 : ¬ c → ok y P) : ok (if c then x else y) P := by
  by_cases h : c
  · rw [if_pos h]; exact h1 h
  · rw [if_neg h]; exact h2 h
theorem ok_t {α : Type} {c : Prop} [Decidable c] {x y : Option α} {P : α → Prop} (h : c) (h1 : ok x P) : ok (if c then x else y) P := by
  rw [if_pos h]; exact h1
theorem ok_f {α : Type} {c : Prop} [Decidable c] {x y : Option α} {P : α → Prop} (h : ¬ c) (h1 : ok y P) : ok (if c then x else y) P := by
  rw [if_neg h]; exact h1
theorem ok_mono {α : Type} {x : Option α} {P Q : α → Prop} (h : ok x P) (hk : ∀ r, P r → Q r) : ok x Q := by
  obtain ⟨r, e, p⟩ := h; exact ⟨r, e, hk r p⟩
theorem ok_eq {α : Type} {x y : Option α} {P : α → Prop} (e : x = y) (h : ok y P) : ok x P := by rw [e]; exact h
theorem ok_of {α : Type} {x : Option α} {r : α} {P : α → Prop} (e : x = some r) (h : P r) : ok x P := ⟨r, e, h⟩
theorem ok_bd1 {α β : Type} {x : Option α} {k : α → Option β} {Q : α → Prop} {P : β → Prop} (h : ok x Q) (hk : ∀ v, Q v → ok (k v) P) : ok (bd1 x k) P := by
  obtain ⟨v, e, q⟩ := h; subst e; exact hk v q
theorem ok_bd2 {α1 α2 β : Type} {x : Option (α1 × α2)} {k : α1 → α2 → Option β} {Q : α1 × α2 → Prop} {P : β → Prop} (h : ok x Q) (hk : ∀ v1 v2, Q (v1, v2) → ok (k v1 v2) P) : ok (bd2 x k) P := by
  obtain ⟨⟨v1, v2⟩, e, q⟩ := h; subst e; exact hk v1 v2 q
-- numbers without sign
def U (x : Int32) : Nat := x.toBitVec.toNat
theorem U_lt (x : Int32) : U x < 2 ^ 32 := x.toBitVec.isLt
theorem nI_U (x : Int32) : nI (U x) = x := by
  apply Int32.toBitVec_inj.mp
  show BitVec.ofNat 32 x.toBitVec.toNat = x.toBitVec
  exact BitVec.ofNat_toNat _ _ |>.trans (BitVec.setWidth_eq _)
theorem U_nI {n : Nat} (h : n < 2 ^ 32) : U (nI n) = n := pk_tn h
theorem U_mod (n : Nat) : U (nI n) = n % 2 ^ 32 := by
  show (BitVec.ofNat 32 n).toNat = _
  exact BitVec.toNat_ofNat _ _
theorem U_inj {x y : Int32} (h : U x = U y) : x = y := by rw [← nI_U x, h, nI_U]
theorem nI_mod (n : Nat) : nI (n % 2 ^ 32) = nI n := U_inj (by rw [U_mod, U_mod, Nat.mod_mod])
theorem lN_bv (n : Nat) : (lN n).toBitVec = BitVec.ofNat 64 n := rfl
theorem lN_nat {n : Nat} (h : n < 2 ^ 64) : (lN n).toBitVec.toNat = n := by
  rw [lN_bv, BitVec.toNat_ofNat]; exact Nat.mod_eq_of_lt h
theorem lN_of (x : Int64) : lN x.toBitVec.toNat = x := by
  apply Int64.toBitVec_inj.mp
  show BitVec.ofNat 64 x.toBitVec.toNat = x.toBitVec
  exact BitVec.ofNat_toNat _ _ |>.trans (BitVec.setWidth_eq _)
theorem l_inj {x y : Int64} (h : x.toBitVec.toNat = y.toBitVec.toNat) : x = y := by rw [← lN_of x, h, lN_of]
theorem l_mask (x : Int32) : x.toInt64 &&& (4294967295 : Int64) = lN (U x) := by
  apply l_inj
  have h1 : (x.toInt64 &&& (4294967295 : Int64)).toBitVec.toNat = (x.toBitVec.signExtend 64).toNat &&& (2 ^ 32 - 1) := rfl
  rw [h1, Nat.and_two_pow_sub_one_eq_mod, lN_nat (Nat.lt_trans (U_lt x) (by decide)), BitVec.toNat_signExtend]
  have := U_lt x
  unfold U at *
  rw [BitVec.toNat_setWidth]
  split <;> omega
theorem l_shr {n : Nat} (h : n < 2 ^ 64) : ((lN n).toUInt64 >>> ((32 : Int32).toInt64.toUInt64 &&& Int64.toUInt64 63)).toInt64 = lN (n / 2 ^ 32) := by
  apply l_inj
  have h1 : ((lN n).toUInt64 >>> ((32 : Int32).toInt64.toUInt64 &&& Int64.toUInt64 63)).toInt64.toBitVec.toNat = (lN n).toBitVec.toNat >>> 32 := rfl
  rw [h1, lN_nat h, lN_nat (by omega), Nat.shiftRight_eq_div_pow]
theorem l_toInt (x : Int64) : x.toInt = if x.toBitVec.toNat < 2 ^ 63 then (x.toBitVec.toNat : Int) else (x.toBitVec.toNat : Int) - 2 ^ 64 := by
  show x.toBitVec.toInt = _
  rw [BitVec.toInt_eq_toNat_cond]
  split <;> split <;> omega
theorem i_toInt (x : Int32) : x.toInt = if U x < 2 ^ 31 then (U x : Int) else (U x : Int) - 2 ^ 32 := by
  show x.toBitVec.toInt = _
  unfold U
  rw [BitVec.toInt_eq_toNat_cond]
  split <;> split <;> omega
/-- not by reduction alone, so that the kernel never compares both sides by itself -/
theorem bnd_q {α β : Type} (e : α) (k : α → β) : bnd e k = k e := Eq.trans rfl rfl
theorem bd1_q {α β : Type} (v : α) (k : α → Option β) : bd1 (some v) k = k v := Eq.trans rfl rfl
theorem bd2_q {α1 α2 β : Type} (v1 : α1) (v2 : α2) (k : α1 → α2 → Option β) : bd2 (some (v1, v2)) k = k v1 v2 := Eq.trans rfl rfl
