-- the reference's machine: numbers, moves
set_option maxHeartbeats 400000 in
theorem l_by (x : Int32) : x.toInt64 &&& (255 : Int64) = lN (By x) := by
  apply l_inj
  have h1 : (x.toInt64 &&& (255 : Int64)).toBitVec.toNat = (x.toBitVec.signExtend 64).toNat &&& (2 ^ 8 - 1) := rfl
  have hB := By_lt x
  rw [h1, Nat.and_two_pow_sub_one_eq_mod, lN_nat (by omega), BitVec.toNat_signExtend, BitVec.toNat_setWidth]
  show _ = U x % 256
  have := U_lt x
  unfold U at *
  split <;> omega
set_option maxHeartbeats 400000 in
theorem l_clr {w k : Nat} (hk : k < 63) (hw : w < 2 ^ k) : lN (w + 2 ^ k) &&& (lN (2 ^ k) ^^^ (-1 : Int64)) = lN w := by
  apply Int64.toBitVec_inj.mp
  show BitVec.ofNat 64 (w + 2 ^ k) &&& (BitVec.ofNat 64 (2 ^ k) ^^^ BitVec.allOnes 64) = BitVec.ofNat 64 w
  have e : w + 2 ^ k = 2 ^ k ||| w := by
    have := Nat.two_pow_add_eq_or_of_lt hw 1
    rw [Nat.mul_one] at this
    rw [← this, Nat.add_comm]
  apply BitVec.eq_of_getLsbD_eq
  intro i hi
  rw [BitVec.getLsbD_and, BitVec.getLsbD_xor, BitVec.getLsbD_ofNat, BitVec.getLsbD_ofNat, BitVec.getLsbD_ofNat, BitVec.getLsbD_allOnes, e, Nat.testBit_or, Nat.testBit_two_pow, decide_eq_true hi]
  by_cases q : k = i
  · rw [← q, Nat.testBit_lt_two_pow hw]
    simp
  · rw [decide_eq_false q]
    simp
set_option maxHeartbeats 400000 in
theorem neg_lN {w : Nat} (h : w < 2 ^ 62) : (-(lN w)).toInt = -(w : Int) := by
  rw [Int64.toInt_neg, lN_I (by omega), Int.bmod_eq_of_le (by omega) (by omega)]
set_option maxHeartbeats 400000 in
/-- a number out of n bytes -/
theorem l_nmE {w b n : Nat} (hn : 1 ≤ n ∧ n ≤ 4) (hw : w < 2 ^ (8 * (n - 1))) (hb : b < 256) : (bnd ((8 : Int32) * nI n) fun v1 => bnd (lN (w + b * 2 ^ (8 * (n - 1))) >>> ((v1 - (1 : Int32)).toInt64 &&& 63)) fun v2 => bnd (v2 &&& (1 : Int64)) fun v3 => if (lg_cmp v3 (1 : Int64)) = 0 then (bnd ((8 : Int32) * nI n) fun v4 => bnd ((1 : Int64) <<< ((v4 - (1 : Int32)).toInt64 &&& 63)) fun v5 => bnd (-(lN (w + b * 2 ^ (8 * (n - 1))) &&& (v5 ^^^ (-1 : Int64)))) fun v6 => some (v6)) else (some (lN (w + b * 2 ^ (8 * (n - 1)))))) = some (if 128 ≤ b then -(lN (w + b * 2 ^ (8 * (n - 1)) - 2 ^ (8 * n - 1))) else lN (w + b * 2 ^ (8 * (n - 1)))) := by
  simp only [↓bnd_q]
  have key : ∀ k (s : Int64), (s.toBitVec.smod 64).toNat = k → k = 8 * n - 1 → k < 62 → (if (lg_cmp (lN (w + b * 2 ^ (8 * (n - 1))) >>> s &&& (1 : Int64)) (1 : Int64)) = 0 then some (-(lN (w + b * 2 ^ (8 * (n - 1))) &&& ((1 : Int64) <<< s ^^^ (-1 : Int64)))) else (some (lN (w + b * 2 ^ (8 * (n - 1)))))) = some (if 128 ≤ b then -(lN (w + b * 2 ^ (8 * (n - 1)) - 2 ^ (8 * n - 1))) else lN (w + b * 2 ^ (8 * (n - 1)))) := by
    intro k s hs hk hk2
    have e2 : 2 ^ k = 128 * 2 ^ (8 * (n - 1)) := by
      rw [hk, show 8 * n - 1 = 8 * (n - 1) + 7 from by omega, Nat.pow_add]
      omega
    have hp : 2 ^ (8 * (n - 1)) ≤ 2 ^ 24 := Nat.pow_le_pow_right (by decide) (by omega)
    have hp0 : 0 < 2 ^ (8 * (n - 1)) := Nat.pow_pos (by decide)
    have hbX : b * 2 ^ (8 * (n - 1)) ≤ 255 * 2 ^ (8 * (n - 1)) := Nat.mul_le_mul_right _ (by omega)
    have hlt : w + b * 2 ^ (8 * (n - 1)) < 2 * 2 ^ k := by rw [e2]; omega
    rw [lN_sr (by omega) s k hs]
    rw [show (1 : Int64) <<< s = lN (2 ^ k) from by rw [show (1 : Int64) = lN 1 from rfl, lN_shl s hs, Nat.one_mul]]
    rw [← hk]
    by_cases q : 128 ≤ b
    · have hge : 2 ^ k ≤ w + b * 2 ^ (8 * (n - 1)) := by
        have := Nat.mul_le_mul_right (2 ^ (8 * (n - 1))) q
        rw [e2]; omega
      have ed : (w + b * 2 ^ (8 * (n - 1))) / 2 ^ k = 1 := by
        rw [Nat.div_eq_iff (Nat.pow_pos (by decide))]
        omega
      rw [if_pos q, ed, if_pos (by decide)]
      congr 2
      have := l_clr (w := w + b * 2 ^ (8 * (n - 1)) - 2 ^ k) (k := k) (by omega) (by omega)
      rw [show w + b * 2 ^ (8 * (n - 1)) - 2 ^ k + 2 ^ k = w + b * 2 ^ (8 * (n - 1)) from by omega] at this
      exact this
    · have hl : w + b * 2 ^ (8 * (n - 1)) < 2 ^ k := by
        have := Nat.mul_le_mul_right (2 ^ (8 * (n - 1))) (show b ≤ 127 by omega)
        rw [e2]; omega
      have ed : (w + b * 2 ^ (8 * (n - 1))) / 2 ^ k = 0 := Nat.div_eq_of_lt hl
      rw [if_neg q, ed, if_neg (by decide)]
  have cs : n = 1 ∨ n = 2 ∨ n = 3 ∨ n = 4 := by omega
  rcases cs with rfl | rfl | rfl | rfl
  · exact key 7 _ (by decide) rfl (by decide)
  · exact key 15 _ (by decide) rfl (by decide)
  · exact key 23 _ (by decide) rfl (by decide)
  · exact key 31 _ (by decide) rfl (by decide)
set_option maxHeartbeats 400000 in
theorem numL_bl (p : Nat → Int32) (a n : Nat) : numL (bl p a (n + 1)) = if 128 ≤ By (p (a + n)) then -((leP p a (n + 1) : Int) - 2 ^ (8 * (n + 1) - 1)) else (leP p a (n + 1) : Int) := by
  unfold numL
  rw [bl_last, leL_bl, bl_len]
set_option maxHeartbeats 400000 in
theorem numL_b {L : List Int32} (h : L.length ≤ 4) : -(2 : Int) ^ 31 < numL L ∧ numL L < 2 ^ 32 := by
  have A : ∀ L : List Int32, leL L < 2 ^ (8 * L.length) := by
    intro L
    induction L with
    | nil => decide
    | cons x L ih =>
      have := By_lt x
      show By x + leL L * 2 ^ 8 < 2 ^ (8 * (L.length + 1))
      rw [show 8 * (L.length + 1) = 8 * L.length + 8 from by omega, Nat.pow_add]
      omega
  have a := A L
  have p1 : 2 ^ (8 * L.length) ≤ 2 ^ 32 := Nat.pow_le_pow_right (by decide) (by omega)
  unfold numL
  by_cases q : 128 ≤ By (L.getLastD 0)
  · rw [if_pos q]
    cases hL : L.length with
    | zero =>
      have e : L = [] := List.eq_nil_of_length_eq_zero hL
      rw [e] at q
      exact absurd q (by decide)
    | succ m =>
      rw [hL] at a h
      rw [show 8 * (m + 1) - 1 = 8 * m + 7 from by omega]
      rw [show 8 * (m + 1) = 8 * m + 7 + 1 from by omega, Nat.pow_succ] at a
      have p2 : 2 ^ (8 * m + 7) ≤ 2 ^ 31 := Nat.pow_le_pow_right (by decide) (by omega)
      have p3 : ((2 ^ (8 * m + 7) : Nat) : Int) = (2 : Int) ^ (8 * m + 7) := by
        rw [Int.natCast_pow]; rfl
      rw [← p3]
      generalize 2 ^ (8 * m + 7) = X at *
      omega
  · rw [if_neg q]
    omega
set_option maxHeartbeats 400000 in
theorem l_nm20 (fu : Nat) (z th sz : Nat → Int32) {k n : Nat} (hk : k < 408) (hn : 1 ≤ n ∧ n ≤ 4) : ∀ r i m, i + r = n → r < m → ok (x_M_numberAt_20 fu z th sz m (nI k) (lN (leP th (256 * k) i)) (nI n) (nI i)) (fun y => y.toInt = numL (bl th (256 * k) n)) := by
  intro r
  induction r with
  | zero =>
    intro i m hi hm
    obtain ⟨m, rfl⟩ : ∃ l, m = l + 1 := ⟨m - 1, by omega⟩
    show ok (xb_M_numberAt_20 fu z th sz (x_M_numberAt_20 fu z th sz m) (nI k) (lN (leP th (256 * k) i)) (nI n) (nI i)) _
    unfold xb_M_numberAt_20
    refine ok_t ((nI_leI (by omega) (by omega)).mpr (by omega)) ?_
    obtain ⟨n, rfl⟩ : ∃ l, n = l + 1 := ⟨n - 1, by omega⟩
    have ei : i = n + 1 := by omega
    subst ei
    have hw := leP_lt th (256 * k) n
    have hb := By_lt (th (256 * k + n))
    have E := l_nmE (w := leP th (256 * k) n) (b := By (th (256 * k + n))) (n := n + 1) hn (by rw [Nat.add_sub_cancel]; exact hw) hb
    rw [Nat.add_sub_cancel] at E
    have ev : leP th (256 * k) n + By (th (256 * k + n)) * 2 ^ (8 * n) = leP th (256 * k) (n + 1) := rfl
    rw [ev] at E
    have hv : leP th (256 * k) (n + 1) < 2 ^ 32 := Nat.lt_of_lt_of_le (leP_lt th (256 * k) (n + 1)) (Nat.pow_le_pow_right (by decide) (by omega))
    refine ok_of E ?_
    rw [numL_bl]
    by_cases q : 128 ≤ By (th (256 * k + n))
    · rw [if_pos q, if_pos q, neg_lN (Nat.lt_of_le_of_lt (Nat.sub_le _ _) (by omega))]
      have hge : 2 ^ (8 * (n + 1) - 1) ≤ leP th (256 * k) (n + 1) := by
        rw [← ev, show 8 * (n + 1) - 1 = 8 * n + 7 from by omega, Nat.pow_add]
        have := Nat.mul_le_mul_right (2 ^ (8 * n)) q
        omega
      have p3 : ((2 ^ (8 * (n + 1) - 1) : Nat) : Int) = (2 : Int) ^ (8 * (n + 1) - 1) := by
        rw [Int.natCast_pow]; rfl
      rw [← p3]
      generalize 2 ^ (8 * (n + 1) - 1) = X at *
      omega
    · rw [if_neg q, if_neg q, lN_I (by omega)]
  | succ r ih =>
    intro i m hi hm
    obtain ⟨m, rfl⟩ : ∃ l, m = l + 1 := ⟨m - 1, by omega⟩
    show ok (xb_M_numberAt_20 fu z th sz (x_M_numberAt_20 fu z th sz m) (nI k) (lN (leP th (256 * k) i)) (nI n) (nI i)) _
    unfold xb_M_numberAt_20
    have hB := By_lt (th (256 * k + i))
    have hv : leP th (256 * k) i < 2 ^ (8 * i) := leP_lt th (256 * k) i
    have hp : 2 ^ (8 * i) ≤ 2 ^ 24 := Nat.pow_le_pow_right (by decide) (by omega)
    refine ok_f (fun e => by have := (nI_leI (by omega) (by omega)).mp e; omega) (ok_bn (pk_mul 256 k) (ok_bn (nI_add _ _) (ok_gd (inb_nI (by omega) (by decide)) (ok_bn (by rw [nI_clamp (n := 256 * k + i) (by omega)]) (ok_bnd (ok_bn (l_by _) (ok_bn (e' := lN (leP th (256 * k) (i + 1))) ?_ (ok_bn (nI_1 i) ?_))))))))
    · have cs : i = 0 ∨ i = 1 ∨ i = 2 ∨ i = 3 := by omega
      have hs : (((((8 : Int32) * nI i).toInt64 &&& 63) : Int64).toBitVec.smod 64).toNat = 8 * i := by
        rcases cs with rfl | rfl | rfl | rfl <;> decide
      have hm2 : By (th (256 * k + i)) * 2 ^ (8 * i) ≤ 255 * 2 ^ (8 * i) := Nat.mul_le_mul_right _ (by omega)
      rw [lN_shl _ hs, lN_or hv (by omega)]
      rfl
    · exact ih (i + 1) m (by omega) (by omega)
set_option maxHeartbeats 400000 in
theorem v_numberAt (fu : Nat) (hfu : 300 ≤ fu) (z th sz : Nat → Int32) {k : Nat} {L : List Int32} (hk : k < 408) (h : sl th sz k L) (hL : isNu L = true) : ok (x_M_numberAt fu z th sz (nI k)) (fun y => y.toInt = numL L) := by
  unfold x_M_numberAt
  obtain ⟨h1, h2, h3⟩ := h
  have hl : L.length ≤ 4 := of_decide_eq_true hL
  rw [nI_clamp (n := k) (by omega), h1]
  refine ok_gd (inb_nI hk (by decide)) (ok_bnd ?_)
  by_cases q : L.length = 0
  · have e : L = [] := List.eq_nil_of_length_eq_zero q
    subst e
    exact ok_t rfl (ok_some rfl)
  · refine ok_f (fun e => q ((nI_eq (b := 0) (by omega) (by omega)).mp e)) ?_
    have := l_nm20 fu z th sz hk (n := L.length) ⟨by omega, hl⟩ L.length 0 fu (by omega) (by omega)
    rw [h3] at this
    exact this
