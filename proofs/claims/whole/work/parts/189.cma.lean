-- the class's machine: things are handles
/-- a handle, and the bytes that it means -/
def hO (D : Nat → Int32) (fr : Nat) (h : Int32) (L : List Int32) : Prop := ∃ p, h = nI (256 * p + L.length) ∧ L.length ≤ 255 ∧ bl D p L.length = L ∧ p + L.length ≤ fr ∧ (L.length = 0 ∨ 32 ≤ p)
set_option maxHeartbeats 1000000 in
theorem hO_k {D D' : Nat → Int32} {fr fr' : Nat} {h : Int32} {L : List Int32} (H : hO D fr h L) (hf : fr ≤ fr') (hD : ∀ j, 32 ≤ j → j < fr → D' j = D j) : hO D' fr' h L := by
  obtain ⟨p, h1, h2, h3, h4, h5⟩ := H
  refine ⟨p, h1, h2, ?_, by omega, h5⟩
  rcases h5 with e | e
  · have : L = [] := List.eq_nil_of_length_eq_zero e
    subst this
    rfl
  · rw [← h3, bl_len]
    exact bl_c _ _ _ fun i hi => hD _ (by omega) (by omega)
/-- a stack; its first thing is on top -/
def stH (D : Nat → Int32) (fr : Nat) (m : Nat → Int32) : Stk → Prop
  | [] => True
  | x :: S => hO D fr (m S.length) x ∧ stH D fr m S
set_option maxHeartbeats 1000000 in
theorem stH_k {D D' : Nat → Int32} {fr fr' : Nat} {m m' : Nat → Int32} (hf : fr ≤ fr') (hD : ∀ j, 32 ≤ j → j < fr → D' j = D j) : ∀ {S : Stk}, stH D fr m S → (∀ k, k < S.length → m' k = m k) → stH D' fr' m' S
  | [], _, _ => trivial
  | x :: S, h, hm => by
    replace hm : ∀ k, k < S.length + 1 → m' k = m k := hm
    exact ⟨by rw [hm _ (by omega)]; exact hO_k h.1 hf hD, stH_k hf hD h.2 (fun k hk => hm k (by omega))⟩
set_option maxHeartbeats 1000000 in
theorem stH_m {D : Nat → Int32} {fr : Nat} {m m' : Nat → Int32} {S : Stk} (h : stH D fr m S) (hm : ∀ k, k < S.length → m' k = m k) : stH D fr m' S := stH_k (Nat.le_refl _) (fun _ _ _ => rfl) h hm
set_option maxHeartbeats 1000000 in
theorem stH_g {D : Nat → Int32} {fr : Nat} {m : Nat → Int32} : ∀ {S : Stk} {i : Nat}, i < S.length → stH D fr m S → hO D fr (m (S.length - 1 - i)) (S.getD i [])
  | [], i, hi, _ => absurd hi (Nat.not_lt_zero _)
  | x :: S, 0, hi, h => h.1
  | x :: S, i + 1, hi, h => by
    replace hi : i + 1 < S.length + 1 := hi
    have := stH_g (i := i) (by omega) h.2
    show hO D fr (m (S.length + 1 - 1 - (i + 1))) (S.getD i [])
    rw [show S.length + 1 - 1 - (i + 1) = S.length - 1 - i from by omega]
    exact this
set_option maxHeartbeats 1000000 in
theorem hO_0 (D : Nat → Int32) (fr : Nat) : hO D fr 0 [] := ⟨0, rfl, Nat.zero_le _, rfl, Nat.zero_le _, Or.inl rfl⟩
set_option maxHeartbeats 1000000 in
theorem v_place (fu : Nat) {p l : Nat} (hp : p < 2 ^ 20) (hl : l ≤ 255) : ok (x_Ma_placeOf fu (nI (256 * p + l))) (fun v => v = nI p) := by
  unfold x_Ma_placeOf
  refine ok_bn (e' := nI p) ?_ (ok_some rfl)
  rw [pk_ushrN (by omega) (8 : Int32) 8 (by decide)]
  congr 1
  omega
set_option maxHeartbeats 1000000 in
theorem v_length (fu : Nat) {p l : Nat} (hp : p < 2 ^ 20) (hl : l ≤ 255) : ok (x_Ma_lengthOf fu (nI (256 * p + l))) (fun v => v = nI l) := by
  unfold x_Ma_lengthOf
  refine ok_bn (e' := nI l) ?_ (ok_some rfl)
  rw [and255]
  unfold By
  rw [U_nI (by omega)]
  congr 1
  omega
set_option maxHeartbeats 1000000 in
theorem l_tr17 (fu : Nat) (j1 j2 j3 j4 j5 j6 j7 j8 j9 : Int32) (D : Nat → Int32) (hD : ftB D) {p m : Nat} (hpm : p + m + 1 ≤ 14928) : ∀ r i n, i + r = p + m + 1 → r < n → ok (x_Ma_isTrue_17 fu j1 j2 j3 j4 j5 j6 j7 j8 j9 D n (nI (p + m)) (nI i)) (tf (truB (bl D i r) = true)) := by
  intro r
  induction r with
  | zero =>
    intro i n hi hn
    obtain ⟨n, rfl⟩ : ∃ m, n = m + 1 := ⟨n - 1, by omega⟩
    show ok (xb_Ma_isTrue_17 fu j1 j2 j3 j4 j5 j6 j7 j8 j9 D (x_Ma_isTrue_17 fu j1 j2 j3 j4 j5 j6 j7 j8 j9 D n) (nI (p + m)) (nI i)) _
    unfold xb_Ma_isTrue_17
    exact ok_t ((nI_ltI (by omega) (by omega)).mpr (by omega)) (ok_some (tf_0 (show ¬ false = true by decide)))
  | succ r ih =>
    intro i n hi hn
    obtain ⟨n, rfl⟩ : ∃ m, n = m + 1 := ⟨n - 1, by omega⟩
    show ok (xb_Ma_isTrue_17 fu j1 j2 j3 j4 j5 j6 j7 j8 j9 D (x_Ma_isTrue_17 fu j1 j2 j3 j4 j5 j6 j7 j8 j9 D n) (nI (p + m)) (nI i)) _
    unfold xb_Ma_isTrue_17 xb_Ma_isTrue_52
    refine ok_f (fun e => by have := (nI_ltI (by omega) (by omega)).mp e; omega) (ok_gd (inb_nI (by omega) (by decide)) ?_)
    rw [nI_clamp (n := i) (by omega), bl_s]
    refine ok_bnd ?_
    by_cases c : D i = 0
    · refine ok_t c (ok_bn (nI_1 i) ?_)
      refine ok_mono (ih (i + 1) n (by omega) (by omega)) fun v hv => tf_c ?_ hv
      cases r with
      | zero => rw [bl_0, c]; exact ⟨fun h => absurd h (show ¬ false = true by decide), fun h => absurd h (show ¬ truB [0] = true by decide)⟩
      | succ r =>
        rw [bl_s, c]
        show truB (D (i + 1) :: bl D (i + 1 + 1) r) = true ↔ (decide ((0 : Int32) ≠ 0) || truB (D (i + 1) :: bl D (i + 1 + 1) r)) = true
        rw [show decide ((0 : Int32) ≠ 0) = false from by decide, Bool.false_or]
    · refine ok_f c ?_
      by_cases d : i < p + m
      · refine ok_t ((nI_ltI (by omega) (by omega)).mpr d) (ok_some (tf_1 ?_))
        obtain ⟨r, rfl⟩ : ∃ q, r = q + 1 := ⟨r - 1, by omega⟩
        rw [bl_s]
        show (decide (D i ≠ 0) || _) = true
        rw [decide_eq_true c, Bool.true_or]
      · have e : r = 0 := by omega
        subst e
        rw [bl_0]
        refine ok_f (fun e => d ((nI_ltI (by omega) (by omega)).mp e)) (ok_gd (inb_nI (by omega) (by decide)) (ok_bnd (ok_bn (and255 _) ?_)))
        have hB := By_lt (D i)
        show ok _ (tf ((decide (D i ≠ 0) && decide (D i ≠ -128)) = true))
        rw [decide_eq_true c, Bool.true_and]
        by_cases q : D i = -128
        · rw [q]
          exact ok_t (by decide) (ok_some (tf_0 (by decide)))
        · refine ok_f (fun e => q ?_) (ok_some (tf_1 (decide_eq_true q)))
          have := (nI_eq (b := 128) (by omega) (by omega)).mp e
          exact fit_inj (hD i) (by decide) (by rw [this]; decide)
set_option maxHeartbeats 1000000 in
theorem v_Ma_isTrue (fu : Nat) (hfu : 300 ≤ fu) (j1 j2 j3 j4 j5 j6 j7 j8 j9 : Int32) {D : Nat → Int32} (hD : ftB D) {fr : Nat} (hfr : fr ≤ 14928) {h : Int32} {L : List Int32} (H : hO D fr h L) : ok (x_Ma_isTrue fu j1 j2 j3 j4 j5 j6 j7 j8 j9 D h) (tf (truB L = true)) := by
  obtain ⟨p, rfl, h2, h3, h4, h5⟩ := H
  unfold x_Ma_isTrue
  refine ok_bd1 (v_place fu (by omega) h2) (fun v1 e1 => ok_bd1 (v_length fu (by omega) h2) (fun v2 e2 => ?_))
  subst e1 e2
  refine ok_bn (nI_add _ _) (ok_bnd (ok_bd1 (v_place fu (by omega) h2) (fun v3 e3 => ?_)))
  subst e3
  by_cases q : L.length = 0
  · have e : L = [] := List.eq_nil_of_length_eq_zero q
    subst e
    obtain ⟨n, rfl⟩ : ∃ m, fu = m + 1 := ⟨fu - 1, by omega⟩
    show ok (xb_Ma_isTrue_17 (n + 1) j1 j2 j3 j4 j5 j6 j7 j8 j9 D (x_Ma_isTrue_17 (n + 1) j1 j2 j3 j4 j5 j6 j7 j8 j9 D n) (nI (p + 0) - (1 : Int32)) (nI p)) _
    unfold xb_Ma_isTrue_17
    refine ok_t ?_ (ok_some (tf_0 (by decide)))
    by_cases c : p = 0
    · subst c; decide
    · rw [show nI (p + 0) - (1 : Int32) = nI (p - 1) from nI_sb (b := 1) (by omega)]
      exact (nI_ltI (by omega) (by omega)).mpr (by omega)
  · obtain ⟨m, hm⟩ : ∃ m, L.length = m + 1 := ⟨L.length - 1, by omega⟩
    rw [hm] at h3 h4 h2
    rw [hm, show nI (p + (m + 1)) - (1 : Int32) = nI (p + m) from nI_sb (a := p + (m + 1)) (b := 1) (by omega)]
    have := l_tr17 fu j1 j2 j3 j4 j5 j6 j7 j8 j9 D hD (p := p) (m := m) (by omega) (m + 1) p fu (by omega) (by omega)
    rw [h3] at this
    exact this
set_option maxHeartbeats 1000000 in
theorem v_Ma_isNumber (fu : Nat) (j1 j2 j3 j4 j5 j6 j7 j8 j9 : Int32) {D : Nat → Int32} {fr : Nat} (hfr : fr ≤ 14928) {h : Int32} {L : List Int32} (H : hO D fr h L) : ok (x_Ma_isNumber fu j1 j2 j3 j4 j5 j6 j7 j8 j9 h) (tf (isNu L = true)) := by
  obtain ⟨p, rfl, h2, h3, h4, h5⟩ := H
  unfold x_Ma_isNumber
  refine ok_bd1 (v_length fu (by omega) h2) (fun v2 e2 => ?_)
  subst e2
  by_cases c : 4 < L.length
  · exact ok_t ((nI_ltI (a := 4) (by omega) (by omega)).mpr c) (ok_some (tf_0 fun e => by have : L.length ≤ 4 := of_decide_eq_true e; omega))
  · exact ok_f (fun e => c ((nI_ltI (a := 4) (by omega) (by omega)).mp e)) (ok_some (tf_1 (decide_eq_true (by omega))))
set_option maxHeartbeats 1000000 in
theorem lN_and (a b : Nat) : lN a &&& lN b = lN (a &&& b) := by
  apply Int64.toBitVec_inj.mp
  show BitVec.ofNat 64 a &&& BitVec.ofNat 64 b = BitVec.ofNat 64 (a &&& b)
  exact BitVec.ofNat_and.symm
set_option maxHeartbeats 1000000 in
theorem and_pow (v k : Nat) : v &&& 2 ^ k = if v / 2 ^ k % 2 = 1 then 2 ^ k else 0 := by
  apply Nat.eq_of_testBit_eq
  intro i
  rw [Nat.testBit_and, Nat.testBit_two_pow]
  by_cases e : k = i
  · subst e
    rw [decide_eq_true rfl, Bool.and_true, Nat.testBit_eq_decide_div_mod_eq]
    by_cases q : v / 2 ^ k % 2 = 1
    · rw [if_pos q, decide_eq_true q, Nat.testBit_two_pow, decide_eq_true rfl]
    · rw [if_neg q, decide_eq_false q, Nat.zero_testBit]
  · rw [decide_eq_false e, Bool.and_false]
    split
    · rw [Nat.testBit_two_pow, decide_eq_false e]
    · rw [Nat.zero_testBit]
set_option maxHeartbeats 1000000 in
theorem l_nm64 (fu : Nat) (j1 j2 j3 j4 j5 j6 j7 j8 j9 : Int32) (D : Nat → Int32) {p n : Nat} (hn : n < 4) {y0 : Int64} (hy : y0 = lN (2 ^ (8 * n + 7))) : ok (xb_Ma_numberOf_64 fu j1 j2 j3 j4 j5 j6 j7 j8 j9 D (lN (leP D p (n + 1))) y0) (fun y => y.toInt = numL (bl D p (n + 1))) := by
  subst hy
  unfold xb_Ma_numberOf_64
  have hw := leP_lt D p n
  have hb := By_lt (D (p + n))
  have ev : leP D p (n + 1) = leP D p n + By (D (p + n)) * 2 ^ (8 * n) := rfl
  have hv : leP D p (n + 1) < 2 ^ 32 := Nat.lt_of_lt_of_le (leP_lt D p (n + 1)) (Nat.pow_le_pow_right (by decide) (by omega))
  have et : leP D p (n + 1) / 2 ^ (8 * n + 7) % 2 = By (D (p + n)) / 128 := by
    rw [Nat.pow_add, ← Nat.div_div_eq_div_mul, ev, Nat.add_mul_div_right _ _ (Nat.two_pow_pos _), Nat.div_eq_of_lt hw, Nat.zero_add]
    omega
  have p2 : 2 ^ (8 * n + 7) ≤ 2 ^ 31 := Nat.pow_le_pow_right (by decide) (by omega)
  have p0 : 0 < 2 ^ (8 * n + 7) := Nat.two_pow_pos _
  have p3 : ((2 ^ (8 * n + 7) : Nat) : Int) = (2 : Int) ^ (8 * n + 7) := by
    rw [Int.natCast_pow]; rfl
  refine ok_bn (lN_and _ _) ?_
  rw [and_pow, et, numL_bl, show 8 * (n + 1) - 1 = 8 * n + 7 from by omega, ← p3]
  by_cases q : 128 ≤ By (D (p + n))
  · have hge : 2 ^ (8 * n + 7) ≤ leP D p (n + 1) := by
      rw [ev, Nat.pow_add]
      have := Nat.mul_le_mul_right (2 ^ (8 * n)) q
      omega
    rw [if_pos q, if_pos (show By (D (p + n)) / 128 = 1 by omega)]
    generalize 2 ^ (8 * n + 7) = X at *
    generalize leP D p (n + 1) = Y at *
    refine ok_f (fun e => by have := (lg_eq (lN_I (by omega)) z64).mp e; omega) (ok_bnd (ok_some ?_))
    show (-(lN Y - lN X)).toInt = _
    rw [Int64.toInt_neg, sub_l (by omega) (by omega), Int.bmod_eq_of_le (by omega) (by omega)]
  · rw [if_neg q, if_neg (show ¬ By (D (p + n)) / 128 = 1 by omega)]
    exact ok_t (by decide) (ok_some (lN_I (by omega)))
set_option maxHeartbeats 1000000 in
theorem l_nm12 (fu : Nat) (j1 j2 j3 j4 j5 j6 j7 j8 j9 : Int32) (D : Nat → Int32) {p n : Nat} (hn : n < 4) (hp : p + n + 1 ≤ 14928) : ∀ i m, i ≤ n + 1 → i < m → ok (x_Ma_numberOf_12 fu j1 j2 j3 j4 j5 j6 j7 j8 j9 D m (nI (256 * p + (n + 1))) (nI (n + 1)) (lN (leP D (p + i) (n + 1 - i))) (nI i + (-1 : Int32))) (fun y => y.toInt = numL (bl D p (n + 1))) := by
  intro i
  induction i with
  | zero =>
    intro m hi hm
    obtain ⟨m, rfl⟩ : ∃ l, m = l + 1 := ⟨m - 1, by omega⟩
    show ok (xb_Ma_numberOf_12 fu j1 j2 j3 j4 j5 j6 j7 j8 j9 D (x_Ma_numberOf_12 fu j1 j2 j3 j4 j5 j6 j7 j8 j9 D m) (nI (256 * p + (n + 1))) (nI (n + 1)) (lN (leP D (p + 0) (n + 1 - 0))) (nI 0 + (-1 : Int32))) _
    unfold xb_Ma_numberOf_12
    refine ok_t (by decide) (ok_f (fun e => by have := (nI_eq (a := n + 1) (b := 0) (by omega) (by omega)).mp e; omega) ?_)
    rw [Nat.add_zero, Nat.sub_zero]
    refine l_nm64 fu j1 j2 j3 j4 j5 j6 j7 j8 j9 D hn ?_
    have cs : n = 0 ∨ n = 1 ∨ n = 2 ∨ n = 3 := by omega
    rcases cs with rfl | rfl | rfl | rfl <;> decide
  | succ i ih =>
    intro m hi hm
    obtain ⟨m, rfl⟩ : ∃ l, m = l + 1 := ⟨m - 1, by omega⟩
    rw [show nI (i + 1) + (-1 : Int32) = nI i from m1_e (a := i + 1) (by omega)]
    show ok (xb_Ma_numberOf_12 fu j1 j2 j3 j4 j5 j6 j7 j8 j9 D (x_Ma_numberOf_12 fu j1 j2 j3 j4 j5 j6 j7 j8 j9 D m) (nI (256 * p + (n + 1))) (nI (n + 1)) (lN (leP D (p + (i + 1)) (n + 1 - (i + 1)))) (nI i)) _
    unfold xb_Ma_numberOf_12
    have hB := By_lt (D (p + i))
    have hv : leP D (p + (i + 1)) (n + 1 - (i + 1)) < 2 ^ 32 := Nat.lt_of_lt_of_le (leP_lt D _ _) (Nat.pow_le_pow_right (by decide) (by omega))
    refine ok_f (fun e => by have := (nI_ltI (b := 0) (by omega) (by omega)).mp e; omega) (ok_bn (lN_shl ((8 : Int32).toInt64 &&& 63) (k := 8) (by decide)) (ok_bd1 (v_place fu (p := p) (l := n + 1) (by omega) (by omega)) (fun v e => ?_)))
    subst e
    refine ok_bn (nI_add _ _) (ok_gd (inb_nI (by omega) (by decide)) ?_)
    rw [nI_clamp (n := p + i) (by omega)]
    refine ok_bnd (ok_bn (e' := lN (leP D (p + i) (n + 1 - i))) ?_ (ok_bnd ?_))
    · rw [and255, iL (show By (D (p + i)) < 2 ^ 31 by omega), Int64.or_comm, lN_or (i := 8) (by omega) (by omega), show n + 1 - i = n + 1 - (i + 1) + 1 from by omega, leP_sh]
    · exact ih m (by omega) (by omega)
set_option maxHeartbeats 1000000 in
theorem v_Ma_numberOf (fu : Nat) (hfu : 300 ≤ fu) (j1 j2 j3 j4 j5 j6 j7 j8 j9 : Int32) {D : Nat → Int32} {fr : Nat} (hfr : fr ≤ 14928) {h : Int32} {L : List Int32} (H : hO D fr h L) (hL : isNu L = true) : ok (x_Ma_numberOf fu j1 j2 j3 j4 j5 j6 j7 j8 j9 D h) (fun y => y.toInt = numL L) := by
  obtain ⟨p, rfl, h2, h3, h4, h5⟩ := H
  have hl : L.length ≤ 4 := of_decide_eq_true hL
  unfold x_Ma_numberOf
  refine ok_bd1 (v_length fu (by omega) h2) (fun v2 e2 => ?_)
  subst e2
  by_cases q : L.length = 0
  · have e : L = [] := List.eq_nil_of_length_eq_zero q
    subst e
    obtain ⟨n, rfl⟩ : ∃ m, fu = m + 1 := ⟨fu - 1, by omega⟩
    refine ok_bnd ?_
    show ok (xb_Ma_numberOf_12 (n + 1) j1 j2 j3 j4 j5 j6 j7 j8 j9 D (x_Ma_numberOf_12 (n + 1) j1 j2 j3 j4 j5 j6 j7 j8 j9 D n) (nI (256 * p + 0)) (nI 0) (0 : Int64) (nI 0 - (1 : Int32))) _
    unfold xb_Ma_numberOf_12 xb_Ma_numberOf_64
    exact ok_t (by decide) (ok_t rfl (ok_bnd (ok_t (by decide) (ok_some rfl))))
  · obtain ⟨m, hm⟩ : ∃ m, L.length = m + 1 := ⟨L.length - 1, by omega⟩
    rw [hm] at h3 h4 h2 hl
    rw [hm]
    have := l_nm12 fu j1 j2 j3 j4 j5 j6 j7 j8 j9 D (p := p) (n := m) (by omega) (by omega) (m + 1) fu (Nat.le_refl _) (by omega)
    rw [h3, Nat.sub_self, Int32.add_comm] at this
    refine ok_bnd ?_
    rw [Int32.sub_eq_add_neg, Int32.add_comm]
    exact this
