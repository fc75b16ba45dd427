-- 64 bits as numbers with a sign
set_option maxHeartbeats 100000 in
theorem la {a b : Int64} (h1 : -2 ^ 63 ≤ a.toInt + b.toInt) (h2 : a.toInt + b.toInt < 2 ^ 63) : (a + b).toInt = a.toInt + b.toInt := by
  rw [Int64.toInt_add]
  exact Int.bmod_eq_of_le (by omega) (by omega)
set_option maxHeartbeats 100000 in
theorem ls {a b : Int64} (h1 : -2 ^ 63 ≤ a.toInt - b.toInt) (h2 : a.toInt - b.toInt < 2 ^ 63) : (a - b).toInt = a.toInt - b.toInt := by
  rw [Int64.toInt_sub]
  exact Int.bmod_eq_of_le (by omega) (by omega)
set_option maxHeartbeats 100000 in
theorem lm {a b : Int64} (h1 : -2 ^ 63 ≤ a.toInt * b.toInt) (h2 : a.toInt * b.toInt < 2 ^ 63) : (a * b).toInt = a.toInt * b.toInt := by
  rw [Int64.toInt_mul]
  exact Int.bmod_eq_of_le (by omega) (by omega)
set_option maxHeartbeats 100000 in
theorem l_bd (x : Int64) : -2 ^ 63 ≤ x.toInt ∧ x.toInt < 2 ^ 63 := by
  rw [l_toInt]
  have h : x.toBitVec.toNat < 2 ^ 64 := x.toBitVec.isLt
  generalize x.toBitVec.toNat = n at *
  split <;> omega
set_option maxHeartbeats 100000 in
theorem l_shr_i {x : Int64} (s : Int64) (k : Nat) (hs : (s.toBitVec.smod 64).toNat = k) : (x >>> s).toInt = x.toInt / 2 ^ k := by
  show (x.toBitVec.sshiftRight (s.toBitVec.smod 64).toNat).toInt = _
  rw [hs, BitVec.toInt_sshiftRight, Int.shiftRight_eq_div_pow]
  rfl
set_option maxHeartbeats 100000 in
/-- the lowest k bits -/
theorem l_and_i (x : Int64) {m : Int64} (k : Nat) (hk : k < 63) (hm : m.toBitVec.toNat = 2 ^ k - 1) : (x &&& m).toInt = x.toInt % 2 ^ k := by
  have h1 : (x &&& m).toBitVec.toNat = x.toBitVec.toNat % 2 ^ k := by
    show (x.toBitVec &&& m.toBitVec).toNat = _
    rw [BitVec.toNat_and, hm, Nat.and_two_pow_sub_one_eq_mod]
  have hp : 2 ^ k < 2 ^ 63 := Nat.pow_lt_pow_right (by decide) hk
  have hp0 : 0 < 2 ^ k := Nat.two_pow_pos k
  have h2 := Nat.mod_lt x.toBitVec.toNat hp0
  rw [l_toInt, h1, if_pos (by omega), l_toInt]
  have hc : ((x.toBitVec.toNat % 2 ^ k : Nat) : Int) = (x.toBitVec.toNat : Int) % (2 ^ k : Nat) := Int.natCast_emod _ _
  have hc2 : ((2 ^ k : Nat) : Int) = 2 ^ k := by rw [Int.natCast_pow]; rfl
  rw [hc, hc2]
  split
  · rfl
  · have h64 : (2 : Int) ^ 64 = 2 ^ k * 2 ^ (64 - k) := by
      rw [← Int.pow_add]
      congr 1
      omega
    rw [h64, Int.sub_mul_emod_self_left]
set_option maxHeartbeats 100000 in
theorem l_52 (x : Int64) : (x &&& (4503599627370495 : Int64)).toInt = x.toInt % 2 ^ 52 := l_and_i x 52 (by decide) (by decide)
set_option maxHeartbeats 100000 in
theorem l_s52 (x : Int64) : (x >>> ((52 : Int32).toInt64 &&& 63)).toInt = x.toInt / 2 ^ 52 := l_shr_i _ 52 (by decide)
set_option maxHeartbeats 100000 in
theorem l_s1 (x : Int64) : (x >>> ((1 : Int32).toInt64 &&& 63)).toInt = x.toInt / 2 ^ 1 := l_shr_i _ 1 (by decide)
set_option maxHeartbeats 100000 in
theorem l_a1 (x : Int64) : (x &&& (1 : Int64)).toInt = x.toInt % 2 ^ 1 := l_and_i x 1 (by decide) (by decide)
set_option maxHeartbeats 100000 in
theorem lg_0 (x : Int64) : (lg_cmp x 0 = 0 ↔ x.toInt = 0) ∧ (0 ≤ lg_cmp x 0 ↔ 0 ≤ x.toInt) := by
  unfold lg_cmp
  have e1 : (x > 0) ↔ 0 < x.toInt := Int64.lt_iff_toInt_lt
  have e2 : x = 0 ↔ x.toInt = 0 := ⟨fun h => by rw [h]; rfl, fun h => Int64.toInt_inj.mp h⟩
  simp only [e1, e2]
  by_cases h : 0 < x.toInt
  · rw [if_pos h]
    exact ⟨⟨fun q => absurd q (by decide), fun q => by omega⟩, ⟨fun _ => by omega, fun _ => by decide⟩⟩
  · rw [if_neg h]
    by_cases h2 : x.toInt = 0
    · rw [if_pos h2]
      exact ⟨⟨fun _ => h2, fun _ => rfl⟩, ⟨fun _ => by omega, fun _ => by decide⟩⟩
    · rw [if_neg h2]
      exact ⟨⟨fun q => absurd q (by decide), fun q => absurd q h2⟩, ⟨fun q => absurd q (by decide), fun q => by omega⟩⟩
set_option maxHeartbeats 100000 in
theorem lg_c (x y : Int64) : (lg_cmp x y = 0 ↔ x.toInt = y.toInt) ∧ (0 ≤ lg_cmp x y ↔ y.toInt ≤ x.toInt) := by
  unfold lg_cmp
  have e1 : (x > y) ↔ y.toInt < x.toInt := Int64.lt_iff_toInt_lt
  have e2 : x = y ↔ x.toInt = y.toInt := ⟨fun h => by rw [h], fun h => Int64.toInt_inj.mp h⟩
  simp only [e1, e2]
  by_cases h : y.toInt < x.toInt
  · rw [if_pos h]
    exact ⟨⟨fun q => absurd q (by decide), fun q => by omega⟩, ⟨fun _ => by omega, fun _ => by decide⟩⟩
  · rw [if_neg h]
    by_cases h2 : x.toInt = y.toInt
    · rw [if_pos h2]
      exact ⟨⟨fun _ => h2, fun _ => rfl⟩, ⟨fun _ => by omega, fun _ => by decide⟩⟩
    · rw [if_neg h2]
      exact ⟨⟨fun q => absurd q (by decide), fun q => absurd q h2⟩, ⟨fun q => absurd q (by decide), fun q => by omega⟩⟩
set_option maxHeartbeats 100000 in
theorem p52_s (k : Nat) : (2 : Int) ^ (52 * (k + 1)) = 2 ^ 52 * 2 ^ (52 * k) := by rw [Nat.mul_succ, Int.pow_add, Int.mul_comm]
/-- the value of limbs of 52 bits -/
def Wv (h : Nat → Int64) : Nat → Int
  | 0 => 0
  | k + 1 => Wv h k + (h k).toInt * 2 ^ (52 * k)
set_option maxHeartbeats 100000 in
theorem Wv_s (h : Nat → Int64) (k : Nat) : Wv h (k + 1) = Wv h k + (h k).toInt * 2 ^ (52 * k) := rfl
def Ds (D : Nat → Int) : Nat → Int
  | 0 => 0
  | k + 1 => Ds D k + D k * 2 ^ (52 * k)
set_option maxHeartbeats 100000 in
theorem Ds_s (D : Nat → Int) (k : Nat) : Ds D (k + 1) = Ds D k + D k * 2 ^ (52 * k) := rfl
set_option maxHeartbeats 100000 in
theorem Wv_c {h g : Nat → Int64} : ∀ {n}, (∀ j, j < n → h j = g j) → Wv h n = Wv g n
  | 0, _ => rfl
  | n + 1, e => by rw [Wv_s, Wv_s, Wv_c (n := n) (fun j hj => e j (by omega)), e n (by omega)]
set_option maxHeartbeats 100000 in
theorem Wv_u (h : Nat → Int64) (k : Nat) (x : Int64) (n : Nat) (hn : n ≤ k) : Wv (vp_updL h k x) n = Wv h n := Wv_c (fun j hj => pk_uLn (by omega))
set_option maxHeartbeats 100000 in
theorem Ds_add (A B : Nat → Int64) : ∀ k, Ds (fun i => (A i).toInt + (B i).toInt) k = Wv A k + Wv B k
  | 0 => rfl
  | k + 1 => by
    rw [Ds_s, Wv_s, Wv_s, Ds_add A B k, Int.add_mul]
    generalize (A k).toInt * 2 ^ (52 * k) = a
    generalize (B k).toInt * 2 ^ (52 * k) = b
    omega
set_option maxHeartbeats 100000 in
theorem Ds_sub (A B : Nat → Int64) : ∀ k, Ds (fun i => (A i).toInt - (B i).toInt) k = Wv A k - Wv B k
  | 0 => rfl
  | k + 1 => by
    rw [Ds_s, Wv_s, Wv_s, Ds_sub A B k, Int.sub_mul]
    generalize (A k).toInt * 2 ^ (52 * k) = a
    generalize (B k).toInt * 2 ^ (52 * k) = b
    omega
/-- the first n limbs are of 52 bits, without sign -/
def nm (h : Nat → Int64) (n : Nat) : Prop := ∀ i, i < n → 0 ≤ (h i).toInt ∧ (h i).toInt < 2 ^ 52
def dI (D : Nat → Int) (w : Nat → Int64) (j : Nat) (c : Int64) (u : Nat → Int64) : Prop := -2 ^ 10 ≤ c.toInt ∧ c.toInt ≤ 2 ^ 10 ∧ Wv u j + c.toInt * 2 ^ (52 * j) = Ds D j ∧ (∀ m, j ≤ m → u m = w m) ∧ nm u j
set_option maxHeartbeats 100000 in
theorem d_1 {S v c p s X : Int} (hS : c + s = S) (h : v + c * X = p) : v + S % 2 ^ 52 * X + S / 2 ^ 52 * (2 ^ 52 * X) = p + s * X := by
  have h4 : S % 2 ^ 52 * X + S / 2 ^ 52 * (2 ^ 52 * X) = S * X := by
    rw [← Int.mul_assoc, ← Int.add_mul, show S % 2 ^ 52 + S / 2 ^ 52 * 2 ^ 52 = S by omega]
  have h5 : S * X = c * X + s * X := by rw [← hS, Int.add_mul]
  rw [Int.add_assoc, h4, h5, ← h, Int.add_assoc]
set_option maxHeartbeats 100000 in
theorem dI_s {D : Nat → Int} {w : Nat → Int64} {j : Nat} {c S : Int64} {u : Nat → Int64} (hD : -2 ^ 61 ≤ D j ∧ D j ≤ 2 ^ 61) (h : dI D w j c u) (hS : S.toInt = c.toInt + D j) : dI D w (j + 1) (S >>> ((52 : Int32).toInt64 &&& 63)) (vp_updL u j (S &&& (4503599627370495 : Int64))) := by
  obtain ⟨h1, h2, h3, h4, h5⟩ := h
  refine ⟨?_, ?_, ?_, fun m hm => ?_, fun i hi => ?_⟩
  · rw [l_s52, hS]
    generalize D j = d at *
    generalize c.toInt = e at *
    omega
  · rw [l_s52, hS]
    generalize D j = d at *
    generalize c.toInt = e at *
    omega
  · rw [Wv_s, Wv_u _ _ _ _ (Nat.le_refl _), pk_uLs, l_52, l_s52, Ds_s, p52_s]
    exact d_1 hS.symm h3
  · rw [pk_uLn (by omega)]
    exact h4 m (by omega)
  · by_cases e : i = j
    · rw [e, pk_uLs, l_52]
      generalize S.toInt = s
      omega
    · rw [pk_uLn e]
      exact h5 i (by omega)
set_option maxHeartbeats 100000 in
theorem dI_f {D : Nat → Int} {w : Nat → Int64} {c S : Int64} {u : Nat → Int64} (h : dI D w 4 c u) (hS : S.toInt = c.toInt + D 4) : Wv (vp_updL u 4 S) 5 = Ds D 5 ∧ nm (vp_updL u 4 S) 4 := by
  obtain ⟨h1, h2, h3, h4, h5⟩ := h
  refine ⟨?_, fun i hi => ?_⟩
  · rw [Wv_s, Wv_u _ _ _ _ (Nat.le_refl _), pk_uLs, hS, Ds_s, ← h3, Int.add_mul, Int.add_assoc]
  · rw [pk_uLn (by omega)]
    exact h5 i hi
def sb (h : Nat → Int64) : Prop := ∀ i, i < 5 → -2 ^ 60 ≤ (h i).toInt ∧ (h i).toInt ≤ 2 ^ 60
def k4 (j : Nat) : Int64 := tb_4.getD j 0
def k5 (j : Nat) : Int64 := tb_5.getD j 0
set_option maxHeartbeats 100000 in
theorem k4_e (j : Nat) : k4 j = tb_4.getD j 0 := rfl
set_option maxHeartbeats 100000 in
theorem k5_e (j : Nat) : k5 j = tb_5.getD j 0 := rfl
set_option maxHeartbeats 100000 in
theorem W_4 : Wv k4 5 = (nN : Int) := by decide +kernel
set_option maxHeartbeats 100000 in
theorem W_5 : Wv k5 5 = (pP : Int) := by decide +kernel
set_option maxHeartbeats 100000 in
theorem sb_4 : sb k4 := by
  intro i hi
  have : i = 0 ∨ i = 1 ∨ i = 2 ∨ i = 3 ∨ i = 4 := by omega
  rcases this with rfl | rfl | rfl | rfl | rfl <;> decide
set_option maxHeartbeats 100000 in
theorem nm_4 : nm k4 4 ∧ nm k5 4 := by
  refine ⟨fun i hi => ?_, fun i hi => ?_⟩
  · have : i = 0 ∨ i = 1 ∨ i = 2 ∨ i = 3 := by omega
    rcases this with rfl | rfl | rfl | rfl <;> decide
  · have : i = 0 ∨ i = 1 ∨ i = 2 ∨ i = 3 := by omega
    rcases this with rfl | rfl | rfl | rfl <;> decide
set_option maxHeartbeats 100000 in
theorem v_Sc_add (fu : Nat) (hfu : 6 ≤ fu) (h1 : Nat → Int64) (w : Nat → Int64) (hw : sb w) (hh : sb h1) : ok (x_Sc_add fu h1 w) (fun u => Wv u 5 = Wv w 5 + Wv h1 5 ∧ nm u 4) := by
  unfold x_Sc_add
  have hD : ∀ j, j < 5 → -2 ^ 61 ≤ (fun i => (w i).toInt + (h1 i).toInt) j ∧ (fun i => (w i).toInt + (h1 i).toInt) j ≤ 2 ^ 61 := by
    intro j hj
    have q1 := hw j hj
    have q2 := hh j hj
    show -2 ^ 61 ≤ (w j).toInt + (h1 j).toInt ∧ (w j).toInt + (h1 j).toInt ≤ 2 ^ 61
    generalize (w j).toInt = a at *
    generalize (h1 j).toInt = b at *
    omega
  have key : ∀ r j c u n, j + r = 5 → 0 < r → r < n → dI (fun i => (w i).toInt + (h1 i).toInt) w j c u → ok (x_Sc_add_5 fu h1 n c (nI j) u) (fun u => Wv u 5 = Ds (fun i => (w i).toInt + (h1 i).toInt) 5 ∧ nm u 4) := by
    intro r
    induction r with
    | zero => intro j c u n hj h0; exact absurd h0 (Nat.lt_irrefl _)
    | succ r ih =>
      intro j c u n hj _ hn hI
      obtain ⟨n, rfl⟩ : ∃ m, n = m + 1 := ⟨n - 1, by omega⟩
      show ok (xb_Sc_add_5 fu h1 (x_Sc_add_5 fu h1 n) c (nI j) u) _
      unfold xb_Sc_add_5
      have eu : u j = w j := hI.2.2.2.1 j (Nat.le_refl j)
      have hDj := hD j (by omega)
      have q1 := hw j (by omega)
      have q2 := hh j (by omega)
      have hc1 := hI.1
      have hc2 := hI.2.1
      refine ok_f (show ¬ (5 : Int32) ≤ nI j from nI_ge (b := 5) (by omega) (by decide)) (ok_gd (inb_nI (by omega) (by decide)) (ok_bnd (ok_gd (inb_nI (by omega) (by decide)) (ok_bnd (ok_bnd ?_)))))
      rw [nI_clamp (n := j) (by omega), eu]
      have hS : (c + (w j + h1 j)).toInt = c.toInt + (fun i => (w i).toInt + (h1 i).toInt) j := by
        have e1 : (w j + h1 j).toInt = (w j).toInt + (h1 j).toInt := by
          apply la
          · generalize (w j).toInt = a at *
            generalize (h1 j).toInt = b at *
            omega
          · generalize (w j).toInt = a at *
            generalize (h1 j).toInt = b at *
            omega
        rw [la, e1]
        · rw [e1]
          generalize (w j).toInt = a at *
          generalize (h1 j).toInt = b at *
          generalize c.toInt = d at *
          omega
        · rw [e1]
          generalize (w j).toInt = a at *
          generalize (h1 j).toInt = b at *
          generalize c.toInt = d at *
          omega
      generalize c + (w j + h1 j) = S at hS ⊢
      by_cases h4 : j = 4
      · subst h4
        refine ok_t (show (4 : Int32) ≤ nI 4 from by decide) ?_
        unfold xb_Sc_add_41
        refine ok_gd (inb_nI (by omega) (by decide)) (ok_bnd (ok_bnd (ok_bnd ?_)))
        rw [nI_clamp (n := 4) (by omega), nI_1]
        obtain ⟨n, rfl⟩ : ∃ m, n = m + 1 := ⟨n - 1, by omega⟩
        show ok (xb_Sc_add_5 fu h1 (x_Sc_add_5 fu h1 n) _ (nI 5) _) _
        unfold xb_Sc_add_5
        exact ok_t (show (5 : Int32) ≤ nI 5 from by decide) (ok_some (dI_f hI hS))
      · refine ok_f (show ¬ (4 : Int32) ≤ nI j from nI_ge (b := 4) (by omega) (by decide)) ?_
        unfold xb_Sc_add_41
        refine ok_gd (inb_nI (by omega) (by decide)) (ok_bnd (ok_bnd (ok_bnd ?_)))
        rw [nI_clamp (n := j) (by omega), nI_1]
        exact ih (j + 1) _ _ n (by omega) (by omega) (by omega) (dI_s hDj hI hS)
  have h := key 5 0 0 w fu (by omega) (by omega) (by omega) ⟨by decide, by decide, by rw [show (0 : Int64).toInt = 0 from rfl, Int.zero_mul]; rfl, fun m _ => rfl, fun i hi => absurd hi (Nat.not_lt_zero _)⟩
  refine ok_mono h (fun u hu => ⟨?_, hu.2⟩)
  rw [hu.1, Ds_add]
set_option maxHeartbeats 100000 in
theorem v_Sc_add_s1x4 (fu : Nat) (hfu : 6 ≤ fu) (w : Nat → Int64) (hw : sb w) : ok (x_Sc_add_s1x4 fu  w) (fun u => Wv u 5 = Wv w 5 + Wv k4 5 ∧ nm u 4) := by
  unfold x_Sc_add_s1x4
  have hD : ∀ j, j < 5 → -2 ^ 61 ≤ (fun i => (w i).toInt + (k4 i).toInt) j ∧ (fun i => (w i).toInt + (k4 i).toInt) j ≤ 2 ^ 61 := by
    intro j hj
    have q1 := hw j hj
    have q2 := sb_4 j hj
    show -2 ^ 61 ≤ (w j).toInt + (k4 j).toInt ∧ (w j).toInt + (k4 j).toInt ≤ 2 ^ 61
    generalize (w j).toInt = a at *
    generalize (k4 j).toInt = b at *
    omega
  have key : ∀ r j c u n, j + r = 5 → 0 < r → r < n → dI (fun i => (w i).toInt + (k4 i).toInt) w j c u → ok (x_Sc_add_s1x4_5 fu  n c (nI j) u) (fun u => Wv u 5 = Ds (fun i => (w i).toInt + (k4 i).toInt) 5 ∧ nm u 4) := by
    intro r
    induction r with
    | zero => intro j c u n hj h0; exact absurd h0 (Nat.lt_irrefl _)
    | succ r ih =>
      intro j c u n hj _ hn hI
      obtain ⟨n, rfl⟩ : ∃ m, n = m + 1 := ⟨n - 1, by omega⟩
      show ok (xb_Sc_add_s1x4_5 fu  (x_Sc_add_s1x4_5 fu  n) c (nI j) u) _
      unfold xb_Sc_add_s1x4_5
      have eu : u j = w j := hI.2.2.2.1 j (Nat.le_refl j)
      have hDj := hD j (by omega)
      have q1 := hw j (by omega)
      have q2 := sb_4 j (by omega)
      have hc1 := hI.1
      have hc2 := hI.2.1
      refine ok_f (show ¬ (5 : Int32) ≤ nI j from nI_ge (b := 5) (by omega) (by decide)) (ok_gd (inb_nI (by omega) (by decide)) (ok_bnd (ok_gd (inb_nI (by omega) (by decide)) (ok_bnd (ok_bnd ?_)))))
      rw [nI_clamp (n := j) (by omega), eu, ← k4_e]
      have hS : (c + (w j + k4 j)).toInt = c.toInt + (fun i => (w i).toInt + (k4 i).toInt) j := by
        have e1 : (w j + k4 j).toInt = (w j).toInt + (k4 j).toInt := by
          apply la
          · generalize (w j).toInt = a at *
            generalize (k4 j).toInt = b at *
            omega
          · generalize (w j).toInt = a at *
            generalize (k4 j).toInt = b at *
            omega
        rw [la, e1]
        · rw [e1]
          generalize (w j).toInt = a at *
          generalize (k4 j).toInt = b at *
          generalize c.toInt = d at *
          omega
        · rw [e1]
          generalize (w j).toInt = a at *
          generalize (k4 j).toInt = b at *
          generalize c.toInt = d at *
          omega
      generalize c + (w j + k4 j) = S at hS ⊢
      by_cases h4 : j = 4
      · subst h4
        refine ok_t (show (4 : Int32) ≤ nI 4 from by decide) ?_
        unfold xb_Sc_add_s1x4_41
        refine ok_gd (inb_nI (by omega) (by decide)) (ok_bnd (ok_bnd (ok_bnd ?_)))
        rw [nI_clamp (n := 4) (by omega), nI_1]
        obtain ⟨n, rfl⟩ : ∃ m, n = m + 1 := ⟨n - 1, by omega⟩
        show ok (xb_Sc_add_s1x4_5 fu  (x_Sc_add_s1x4_5 fu  n) _ (nI 5) _) _
        unfold xb_Sc_add_s1x4_5
        exact ok_t (show (5 : Int32) ≤ nI 5 from by decide) (ok_some (dI_f hI hS))
      · refine ok_f (show ¬ (4 : Int32) ≤ nI j from nI_ge (b := 4) (by omega) (by decide)) ?_
        unfold xb_Sc_add_s1x4_41
        refine ok_gd (inb_nI (by omega) (by decide)) (ok_bnd (ok_bnd (ok_bnd ?_)))
        rw [nI_clamp (n := j) (by omega), nI_1]
        exact ih (j + 1) _ _ n (by omega) (by omega) (by omega) (dI_s hDj hI hS)
  have h := key 5 0 0 w fu (by omega) (by omega) (by omega) ⟨by decide, by decide, by rw [show (0 : Int64).toInt = 0 from rfl, Int.zero_mul]; rfl, fun m _ => rfl, fun i hi => absurd hi (Nat.not_lt_zero _)⟩
  refine ok_mono h (fun u hu => ⟨?_, hu.2⟩)
  rw [hu.1, Ds_add]
set_option maxHeartbeats 100000 in
theorem v_Sc_subtract (fu : Nat) (hfu : 6 ≤ fu) (h1 : Nat → Int64) (w : Nat → Int64) (hw : sb w) (hh : sb h1) : ok (x_Sc_subtract fu h1 w) (fun u => Wv u 5 = Wv w 5 - Wv h1 5 ∧ nm u 4) := by
  unfold x_Sc_subtract
  have hD : ∀ j, j < 5 → -2 ^ 61 ≤ (fun i => (w i).toInt - (h1 i).toInt) j ∧ (fun i => (w i).toInt - (h1 i).toInt) j ≤ 2 ^ 61 := by
    intro j hj
    have q1 := hw j hj
    have q2 := hh j hj
    show -2 ^ 61 ≤ (w j).toInt - (h1 j).toInt ∧ (w j).toInt - (h1 j).toInt ≤ 2 ^ 61
    generalize (w j).toInt = a at *
    generalize (h1 j).toInt = b at *
    omega
  have key : ∀ r j c u n, j + r = 5 → 0 < r → r < n → dI (fun i => (w i).toInt - (h1 i).toInt) w j c u → ok (x_Sc_subtract_5 fu h1 n c (nI j) u) (fun u => Wv u 5 = Ds (fun i => (w i).toInt - (h1 i).toInt) 5 ∧ nm u 4) := by
    intro r
    induction r with
    | zero => intro j c u n hj h0; exact absurd h0 (Nat.lt_irrefl _)
    | succ r ih =>
      intro j c u n hj _ hn hI
      obtain ⟨n, rfl⟩ : ∃ m, n = m + 1 := ⟨n - 1, by omega⟩
      show ok (xb_Sc_subtract_5 fu h1 (x_Sc_subtract_5 fu h1 n) c (nI j) u) _
      unfold xb_Sc_subtract_5
      have eu : u j = w j := hI.2.2.2.1 j (Nat.le_refl j)
      have hDj := hD j (by omega)
      have q1 := hw j (by omega)
      have q2 := hh j (by omega)
      have hc1 := hI.1
      have hc2 := hI.2.1
      refine ok_f (show ¬ (5 : Int32) ≤ nI j from nI_ge (b := 5) (by omega) (by decide)) (ok_gd (inb_nI (by omega) (by decide)) (ok_bnd (ok_gd (inb_nI (by omega) (by decide)) (ok_bnd (ok_bnd ?_)))))
      rw [nI_clamp (n := j) (by omega), eu]
      have hS : (c + (w j - h1 j)).toInt = c.toInt + (fun i => (w i).toInt - (h1 i).toInt) j := by
        have e1 : (w j - h1 j).toInt = (w j).toInt - (h1 j).toInt := by
          apply ls
          · generalize (w j).toInt = a at *
            generalize (h1 j).toInt = b at *
            omega
          · generalize (w j).toInt = a at *
            generalize (h1 j).toInt = b at *
            omega
        rw [la, e1]
        · rw [e1]
          generalize (w j).toInt = a at *
          generalize (h1 j).toInt = b at *
          generalize c.toInt = d at *
          omega
        · rw [e1]
          generalize (w j).toInt = a at *
          generalize (h1 j).toInt = b at *
          generalize c.toInt = d at *
          omega
      generalize c + (w j - h1 j) = S at hS ⊢
      by_cases h4 : j = 4
      · subst h4
        refine ok_t (show (4 : Int32) ≤ nI 4 from by decide) ?_
        unfold xb_Sc_subtract_41
        refine ok_gd (inb_nI (by omega) (by decide)) (ok_bnd (ok_bnd (ok_bnd ?_)))
        rw [nI_clamp (n := 4) (by omega), nI_1]
        obtain ⟨n, rfl⟩ : ∃ m, n = m + 1 := ⟨n - 1, by omega⟩
        show ok (xb_Sc_subtract_5 fu h1 (x_Sc_subtract_5 fu h1 n) _ (nI 5) _) _
        unfold xb_Sc_subtract_5
        exact ok_t (show (5 : Int32) ≤ nI 5 from by decide) (ok_some (dI_f hI hS))
      · refine ok_f (show ¬ (4 : Int32) ≤ nI j from nI_ge (b := 4) (by omega) (by decide)) ?_
        unfold xb_Sc_subtract_41
        refine ok_gd (inb_nI (by omega) (by decide)) (ok_bnd (ok_bnd (ok_bnd ?_)))
        rw [nI_clamp (n := j) (by omega), nI_1]
        exact ih (j + 1) _ _ n (by omega) (by omega) (by omega) (dI_s hDj hI hS)
  have h := key 5 0 0 w fu (by omega) (by omega) (by omega) ⟨by decide, by decide, by rw [show (0 : Int64).toInt = 0 from rfl, Int.zero_mul]; rfl, fun m _ => rfl, fun i hi => absurd hi (Nat.not_lt_zero _)⟩
  refine ok_mono h (fun u hu => ⟨?_, hu.2⟩)
  rw [hu.1, Ds_sub]
set_option maxHeartbeats 100000 in
theorem v_Sc_subtract_s1x4 (fu : Nat) (hfu : 6 ≤ fu) (w : Nat → Int64) (hw : sb w) : ok (x_Sc_subtract_s1x4 fu  w) (fun u => Wv u 5 = Wv w 5 - Wv k4 5 ∧ nm u 4) := by
  unfold x_Sc_subtract_s1x4
  have hD : ∀ j, j < 5 → -2 ^ 61 ≤ (fun i => (w i).toInt - (k4 i).toInt) j ∧ (fun i => (w i).toInt - (k4 i).toInt) j ≤ 2 ^ 61 := by
    intro j hj
    have q1 := hw j hj
    have q2 := sb_4 j hj
    show -2 ^ 61 ≤ (w j).toInt - (k4 j).toInt ∧ (w j).toInt - (k4 j).toInt ≤ 2 ^ 61
    generalize (w j).toInt = a at *
    generalize (k4 j).toInt = b at *
    omega
  have key : ∀ r j c u n, j + r = 5 → 0 < r → r < n → dI (fun i => (w i).toInt - (k4 i).toInt) w j c u → ok (x_Sc_subtract_s1x4_5 fu  n c (nI j) u) (fun u => Wv u 5 = Ds (fun i => (w i).toInt - (k4 i).toInt) 5 ∧ nm u 4) := by
    intro r
    induction r with
    | zero => intro j c u n hj h0; exact absurd h0 (Nat.lt_irrefl _)
    | succ r ih =>
      intro j c u n hj _ hn hI
      obtain ⟨n, rfl⟩ : ∃ m, n = m + 1 := ⟨n - 1, by omega⟩
      show ok (xb_Sc_subtract_s1x4_5 fu  (x_Sc_subtract_s1x4_5 fu  n) c (nI j) u) _
      unfold xb_Sc_subtract_s1x4_5
      have eu : u j = w j := hI.2.2.2.1 j (Nat.le_refl j)
      have hDj := hD j (by omega)
      have q1 := hw j (by omega)
      have q2 := sb_4 j (by omega)
      have hc1 := hI.1
      have hc2 := hI.2.1
      refine ok_f (show ¬ (5 : Int32) ≤ nI j from nI_ge (b := 5) (by omega) (by decide)) (ok_gd (inb_nI (by omega) (by decide)) (ok_bnd (ok_gd (inb_nI (by omega) (by decide)) (ok_bnd (ok_bnd ?_)))))
      rw [nI_clamp (n := j) (by omega), eu, ← k4_e]
      have hS : (c + (w j - k4 j)).toInt = c.toInt + (fun i => (w i).toInt - (k4 i).toInt) j := by
        have e1 : (w j - k4 j).toInt = (w j).toInt - (k4 j).toInt := by
          apply ls
          · generalize (w j).toInt = a at *
            generalize (k4 j).toInt = b at *
            omega
          · generalize (w j).toInt = a at *
            generalize (k4 j).toInt = b at *
            omega
        rw [la, e1]
        · rw [e1]
          generalize (w j).toInt = a at *
          generalize (k4 j).toInt = b at *
          generalize c.toInt = d at *
          omega
        · rw [e1]
          generalize (w j).toInt = a at *
          generalize (k4 j).toInt = b at *
          generalize c.toInt = d at *
          omega
      generalize c + (w j - k4 j) = S at hS ⊢
      by_cases h4 : j = 4
      · subst h4
        refine ok_t (show (4 : Int32) ≤ nI 4 from by decide) ?_
        unfold xb_Sc_subtract_s1x4_41
        refine ok_gd (inb_nI (by omega) (by decide)) (ok_bnd (ok_bnd (ok_bnd ?_)))
        rw [nI_clamp (n := 4) (by omega), nI_1]
        obtain ⟨n, rfl⟩ : ∃ m, n = m + 1 := ⟨n - 1, by omega⟩
        show ok (xb_Sc_subtract_s1x4_5 fu  (x_Sc_subtract_s1x4_5 fu  n) _ (nI 5) _) _
        unfold xb_Sc_subtract_s1x4_5
        exact ok_t (show (5 : Int32) ≤ nI 5 from by decide) (ok_some (dI_f hI hS))
      · refine ok_f (show ¬ (4 : Int32) ≤ nI j from nI_ge (b := 4) (by omega) (by decide)) ?_
        unfold xb_Sc_subtract_s1x4_41
        refine ok_gd (inb_nI (by omega) (by decide)) (ok_bnd (ok_bnd (ok_bnd ?_)))
        rw [nI_clamp (n := j) (by omega), nI_1]
        exact ih (j + 1) _ _ n (by omega) (by omega) (by omega) (dI_s hDj hI hS)
  have h := key 5 0 0 w fu (by omega) (by omega) (by omega) ⟨by decide, by decide, by rw [show (0 : Int64).toInt = 0 from rfl, Int.zero_mul]; rfl, fun m _ => rfl, fun i hi => absurd hi (Nat.not_lt_zero _)⟩
  refine ok_mono h (fun u hu => ⟨?_, hu.2⟩)
  rw [hu.1, Ds_sub]
def cmpI (a b : Int) : Int32 := if a = b then 0 else if a < b then -1 else 1
set_option maxHeartbeats 100000 in
theorem cmpI_lt (a b : Int) : cmpI a b < 0 ↔ a < b := by
  unfold cmpI
  by_cases h : a = b
  · rw [if_pos h]; simp [h]
  · rw [if_neg h]
    by_cases h2 : a < b
    · rw [if_pos h2]; simp [h2]
    · rw [if_neg h2]; simp [h2]
set_option maxHeartbeats 100000 in
theorem cmpI_ge (a b : Int) : 0 ≤ cmpI a b ↔ b ≤ a := by
  rw [← Int32.not_lt, cmpI_lt]; omega
set_option maxHeartbeats 100000 in
theorem cmpI_add (a b X : Int) : cmpI (a + X) (b + X) = cmpI a b := by
  unfold cmpI
  have e1 : (a + X = b + X) ↔ a = b := by omega
  have e2 : (a + X < b + X) ↔ a < b := by omega
  simp only [e1, e2]
set_option maxHeartbeats 100000 in
theorem Wv_nm {h : Nat → Int64} : ∀ {n}, nm h n → 0 ≤ Wv h n ∧ Wv h n < 2 ^ (52 * n)
  | 0, _ => by
    show (0 : Int) ≤ 0 ∧ (0 : Int) < 2 ^ (52 * 0)
    decide
  | n + 1, hn => by
    have h1 := Wv_nm (h := h) (n := n) (fun i hi => hn i (by omega))
    obtain ⟨h2, h3⟩ := hn n (by omega)
    rw [Wv_s, p52_s]
    have hp : (0 : Int) < 2 ^ (52 * n) := Int.pow_pos (by decide)
    generalize (2 : Int) ^ (52 * n) = X at *
    generalize (h n).toInt = a at *
    have k1 : 0 ≤ a * X := Int.mul_nonneg h2 (by omega)
    have k2 : a * X ≤ (2 ^ 52 - 1) * X := Int.mul_le_mul_of_nonneg_right (by omega) (by omega)
    refine ⟨by omega, ?_⟩
    rw [Int.sub_mul] at k2
    omega
set_option maxHeartbeats 100000 in
theorem Wv_top {f g : Nat → Int64} {k : Nat} (hf : nm f k) (hg : nm g k) (h : (f k).toInt < (g k).toInt) : Wv f (k + 1) < Wv g (k + 1) := by
  have h1 := Wv_nm hf
  have h2 := Wv_nm hg
  rw [Wv_s, Wv_s]
  have hp : (0 : Int) < 2 ^ (52 * k) := Int.pow_pos (by decide)
  generalize (2 : Int) ^ (52 * k) = X at *
  generalize (f k).toInt = a at *
  generalize (g k).toInt = b at *
  have k2 : (a + 1) * X ≤ b * X := Int.mul_le_mul_of_nonneg_right (by omega) (by omega)
  rw [Int.add_mul] at k2
  omega
set_option maxHeartbeats 100000 in
theorem l_Sc_compare (fu : Nat) (h0 : Nat → Int64) (h1 : Nat → Int64) (hA : nm h0 4) (hB : nm h1 4) : ∀ k n, k ≤ 5 → k < n → x_Sc_compare_2 fu h0 h1 n (nI k + (-1)) = some (cmpI (Wv h0 k) (Wv h1 k))
  | 0, n + 1, _, _ => rfl
  | k + 1, n + 1, hk, hn => by
    rw [pk_m1]
    show xb_Sc_compare_2 fu h0 h1 (x_Sc_compare_2 fu h0 h1 n) (nI k) = _
    unfold xb_Sc_compare_2
    rw [if_neg (nI_pos (by omega)), gd_t (inb_nI (by omega) (by decide)), bnd_q, gd_t (inb_nI (by omega) (by decide)), bnd_q, nI_clamp (n := k) (by omega)]
    obtain ⟨c1, c2⟩ := lg_c (h0 k) (h1 k)
    have hA' : nm h0 k := fun i hi => hA i (by omega)
    have hB' : nm h1 k := fun i hi => hB i (by omega)
    by_cases h : (h0 k).toInt = (h1 k).toInt
    · rw [if_pos (c1.mpr h), bnd_q, l_Sc_compare fu h0 h1 hA hB k n (by omega) (by omega)]
      rw [Wv_s, Wv_s, h, cmpI_add]
    · rw [if_neg (fun q => h (c1.mp q)), gd_t (inb_nI (by omega) (by decide)), bnd_q, gd_t (inb_nI (by omega) (by decide)), bnd_q]
      unfold cmpI
      by_cases h2 : (h0 k).toInt < (h1 k).toInt
      · have h3 := Wv_top hA' hB' h2
        rw [if_neg (fun q => by have := c2.mp q; omega), if_neg (by omega), if_pos h3]
      · have h3 := Wv_top hB' hA' (by omega)
        rw [if_pos (c2.mpr (by omega)), if_neg (by omega), if_neg (by omega)]
set_option maxHeartbeats 100000 in
theorem v_Sc_compare (fu : Nat) (hfu : 6 ≤ fu) (h0 : Nat → Int64) (h1 : Nat → Int64) (hA : nm h0 4) (hB : nm h1 4) : x_Sc_compare fu h0 h1 = some (cmpI (Wv h0 5) (Wv h1 5)) := by
  have h := l_Sc_compare fu h0 h1 hA hB 5 fu (Nat.le_refl 5) (by omega)
  rw [show nI 5 + (-1 : Int32) = 4 by decide] at h
  exact h
set_option maxHeartbeats 100000 in
theorem l_Sc_compare_s1x5 (fu : Nat) (h0 : Nat → Int64) (hA : nm h0 4) : ∀ k n, k ≤ 5 → k < n → x_Sc_compare_s1x5_2 fu h0  n (nI k + (-1)) = some (cmpI (Wv h0 k) (Wv k5 k))
  | 0, n + 1, _, _ => rfl
  | k + 1, n + 1, hk, hn => by
    rw [pk_m1]
    show xb_Sc_compare_s1x5_2 fu h0  (x_Sc_compare_s1x5_2 fu h0  n) (nI k) = _
    unfold xb_Sc_compare_s1x5_2
    rw [if_neg (nI_pos (by omega)), gd_t (inb_nI (by omega) (by decide)), bnd_q, gd_t (inb_nI (by omega) (by decide)), bnd_q, nI_clamp (n := k) (by omega), ← k5_e]
    obtain ⟨c1, c2⟩ := lg_c (h0 k) (k5 k)
    have hA' : nm h0 k := fun i hi => hA i (by omega)
    have hB' : nm k5 k := fun i hi => nm_4.2 i (by omega)
    by_cases h : (h0 k).toInt = (k5 k).toInt
    · rw [if_pos (c1.mpr h), bnd_q, l_Sc_compare_s1x5 fu h0  hA k n (by omega) (by omega)]
      rw [Wv_s, Wv_s, h, cmpI_add]
    · rw [if_neg (fun q => h (c1.mp q)), gd_t (inb_nI (by omega) (by decide)), bnd_q, gd_t (inb_nI (by omega) (by decide)), bnd_q]
      unfold cmpI
      by_cases h2 : (h0 k).toInt < (k5 k).toInt
      · have h3 := Wv_top hA' hB' h2
        rw [if_neg (fun q => by have := c2.mp q; omega), if_neg (by omega), if_pos h3]
      · have h3 := Wv_top hB' hA' (by omega)
        rw [if_pos (c2.mpr (by omega)), if_neg (by omega), if_neg (by omega)]
set_option maxHeartbeats 100000 in
theorem v_Sc_compare_s1x5 (fu : Nat) (hfu : 6 ≤ fu) (h0 : Nat → Int64) (hA : nm h0 4) : x_Sc_compare_s1x5 fu h0  = some (cmpI (Wv h0 5) (Wv k5 5)) := by
  have h := l_Sc_compare_s1x5 fu h0  hA 5 fu (Nat.le_refl 5) (by omega)
  rw [show nI 5 + (-1 : Int32) = 4 by decide] at h
  exact h
set_option maxHeartbeats 100000 in
theorem l_Sc_compare_s1x4 (fu : Nat) (h0 : Nat → Int64) (hA : nm h0 4) : ∀ k n, k ≤ 5 → k < n → x_Sc_compare_s1x4_2 fu h0  n (nI k + (-1)) = some (cmpI (Wv h0 k) (Wv k4 k))
  | 0, n + 1, _, _ => rfl
  | k + 1, n + 1, hk, hn => by
    rw [pk_m1]
    show xb_Sc_compare_s1x4_2 fu h0  (x_Sc_compare_s1x4_2 fu h0  n) (nI k) = _
    unfold xb_Sc_compare_s1x4_2
    rw [if_neg (nI_pos (by omega)), gd_t (inb_nI (by omega) (by decide)), bnd_q, gd_t (inb_nI (by omega) (by decide)), bnd_q, nI_clamp (n := k) (by omega), ← k4_e]
    obtain ⟨c1, c2⟩ := lg_c (h0 k) (k4 k)
    have hA' : nm h0 k := fun i hi => hA i (by omega)
    have hB' : nm k4 k := fun i hi => nm_4.1 i (by omega)
    by_cases h : (h0 k).toInt = (k4 k).toInt
    · rw [if_pos (c1.mpr h), bnd_q, l_Sc_compare_s1x4 fu h0  hA k n (by omega) (by omega)]
      rw [Wv_s, Wv_s, h, cmpI_add]
    · rw [if_neg (fun q => h (c1.mp q)), gd_t (inb_nI (by omega) (by decide)), bnd_q, gd_t (inb_nI (by omega) (by decide)), bnd_q]
      unfold cmpI
      by_cases h2 : (h0 k).toInt < (k4 k).toInt
      · have h3 := Wv_top hA' hB' h2
        rw [if_neg (fun q => by have := c2.mp q; omega), if_neg (by omega), if_pos h3]
      · have h3 := Wv_top hB' hA' (by omega)
        rw [if_pos (c2.mpr (by omega)), if_neg (by omega), if_neg (by omega)]
set_option maxHeartbeats 100000 in
theorem v_Sc_compare_s1x4 (fu : Nat) (hfu : 6 ≤ fu) (h0 : Nat → Int64) (hA : nm h0 4) : x_Sc_compare_s1x4 fu h0  = some (cmpI (Wv h0 5) (Wv k4 5)) := by
  have h := l_Sc_compare_s1x4 fu h0  hA 5 fu (Nat.le_refl 5) (by omega)
  rw [show nI 5 + (-1 : Int32) = 4 by decide] at h
  exact h
