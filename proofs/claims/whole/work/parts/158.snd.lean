-- the class: whether a block is sound; amounts and inputs
set_option maxHeartbeats 400000 in
theorem lg_lt (x y : Int64) : lg_cmp x y < 0 ↔ x.toInt < y.toInt := by
  have h := (lg_c x y).2
  constructor
  · intro q
    by_cases e : y.toInt ≤ x.toInt
    · exact absurd (h.mpr e) (Int32.not_le.mpr q)
    · omega
  · intro q
    refine Int32.not_le.mp fun e => ?_
    have := h.mp e
    omega
set_option maxHeartbeats 400000 in
theorem lg_gt (x y : Int64) : 0 < lg_cmp x y ↔ y.toInt < x.toInt := by
  have h := lg_le x y
  constructor
  · intro q
    by_cases e : x.toInt ≤ y.toInt
    · exact absurd (h.mpr e) (Int32.not_le.mpr q)
    · omega
  · intro q
    refine Int32.not_le.mp fun e => ?_
    have := h.mp e
    omega
set_option maxHeartbeats 400000 in
theorem nI_eq32 {a b : Nat} (ha : a < 2 ^ 32) (hb : b < 2 ^ 32) : nI a = nI b ↔ a = b := by
  constructor
  · intro h
    rw [← U_nI ha, ← U_nI hb, h]
  · intro h; rw [h]
set_option maxHeartbeats 400000 in
theorem nI_m1 : (-1 : Int32) = nI 4294967295 := by decide
set_option maxHeartbeats 400000 in
theorem mst : (2100000000000000 : Int64) = lN 2100000000000000 := rfl
set_option maxHeartbeats 400000 in
theorem lN_toI {n : Nat} (h : n < 2 ^ 64) : (lN n).toInt = if n < 2 ^ 63 then (n : Int) else (n : Int) - 2 ^ 64 := by
  rw [l_toInt, lN_nat h]
set_option maxHeartbeats 400000 in
/-- a value that may be -/
theorem am_lo {v : Nat} (hv : v < 2 ^ 64) : lg_cmp (lN v) (0 : Int64) < 0 ↔ 2 ^ 63 ≤ v := by
  rw [lg_lt, lN_toI hv, show (0 : Int64).toInt = 0 from rfl]
  by_cases q : v < 2 ^ 63
  · rw [if_pos q]; omega
  · rw [if_neg q]; omega
set_option maxHeartbeats 400000 in
theorem am_hi {v : Nat} (hv : v < 2 ^ 63) : 0 < lg_cmp (lN v) (2100000000000000 : Int64) ↔ 2100000000000000 < v := by
  rw [lg_gt, mst, lN_I hv, lN_I (by decide)]
  omega
set_option maxHeartbeats 400000 in
theorem am_le {v : Nat} (hv : v < 2 ^ 63) : lg_cmp (lN v) (2100000000000000 : Int64) ≤ 0 ↔ v ≤ 2100000000000000 := by
  rw [lg_le, mst, lN_I hv, lN_I (by decide)]
  omega
set_option maxHeartbeats 400000 in
theorem leP_8 (p : Nat → Int32) (o : Nat) : leP p o 8 = leP p o 4 + leP p (o + 4) 4 * 2 ^ 32 := by
  show ((((leP p o 4 + By (p (o + 4)) * 2 ^ (8 * 4)) + By (p (o + 5)) * 2 ^ (8 * 5)) + By (p (o + 6)) * 2 ^ (8 * 6)) + By (p (o + 7)) * 2 ^ (8 * 7)) = leP p o 4 + (0 + By (p (o + 4 + 0)) * 2 ^ (8 * 0) + By (p (o + 4 + 1)) * 2 ^ (8 * 1) + By (p (o + 4 + 2)) * 2 ^ (8 * 2) + By (p (o + 4 + 3)) * 2 ^ (8 * 3)) * 2 ^ 32
  generalize By (p (o + 4)) = a
  generalize By (p (o + 5)) = b
  generalize By (p (o + 6)) = c
  generalize By (p (o + 7)) = d
  generalize leP p o 4 = e
  omega
set_option maxHeartbeats 400000 in
theorem l_hi {w : Nat} (hw : w < 2 ^ 32) : (nI w).toInt64 <<< ((32 : Int32).toInt64 &&& 63) = lN (w * 2 ^ 32) := by
  apply l_inj
  have h1 : ((nI w).toInt64 <<< ((32 : Int32).toInt64 &&& 63)).toBitVec.toNat = (((nI w).toBitVec.signExtend 64) <<< 32).toNat := rfl
  rw [h1, BitVec.toNat_shiftLeft, BitVec.toNat_signExtend, lN_nat (by omega), BitVec.toNat_setWidth]
  have e : (nI w).toBitVec.toNat = w := U_nI hw
  rw [e, Nat.shiftLeft_eq]
  split <;> omega
set_option maxHeartbeats 400000 in
theorem v_La_value (fu : Nat) (i1 i2 i3 i4 i5 : Int32) (nr : Nat) (hn : nr < 2 ^ 30) (g u9 : Nat → Int32) {m a : Nat} (hm : m < 333) (hu : u9 m = nI a) (ha : a + 8 ≤ nr) : x_La_value fu i1 i2 i3 i4 i5 nr g u9 (nI m) = some (lN (leP g a 8)) := by
  unfold x_La_value
  rw [gd_t (inb_nI hm (by decide)), nI_clamp (n := m) (by omega), hu, bnd_q, v_K_word fu nr (by omega) g (by omega)]
  rw [bd1_q, bnd_q, l_mask, bnd_q, gd_t (inb_nI hm (by decide)), bnd_q, bnd_q, show nI a + (4 : Int32) = nI (a + 4) from nI_add a 4, v_K_word fu nr (by omega) g (by omega), bd1_q, bnd_q]
  have b0 := leP_lt g a 4
  have b1 := leP_lt g (a + 4) 4
  rw [l_hi b1, U_nI b0, lN_or (i := 32) b0 (by omega), leP_8]
  rfl
def osm (v : Nat → Nat) : Nat → Nat
  | 0 => 0
  | m + 1 => osm v m + v m
def amQ (v : Nat → Nat) (m : Nat) : Prop := v m ≤ 2100000000000000 ∧ osm v m + v m ≤ 2100000000000000
set_option maxHeartbeats 400000 in
theorem l_am (fu : Nat) (i1 i2 i3 i4 i5 : Int32) (nr : Nat) (hn : nr < 2 ^ 30) (g u5 u9 : Nat → Int32) {t k l : Nat} {v at' : Nat → Nat} (ht : t < 300) (h5 : u5 t = nI k) (h5' : u5 (t + 1) = nI (k + l)) (hk : k + l ≤ 333) (hv : ∀ m, m < l → u9 (k + m) = nI (at' m) ∧ at' m + 8 ≤ nr ∧ v m = leP g (at' m) 8) : ∀ r j n, j + r = l → r < n → osm v j ≤ 2100000000000000 → ok (x_La_amountsAreSound_10 fu i1 i2 i3 i4 i5 nr g u5 u9 n (nI t) (lN (osm v j)) (nI (k + j))) (tf (0 < l ∧ fa (amQ v) j l)) := by
  intro r
  induction r with
  | zero =>
    intro j n hi hn' hs
    obtain ⟨n, rfl⟩ : ∃ m, n = m + 1 := ⟨n - 1, by omega⟩
    show ok (xb_La_amountsAreSound_10 fu i1 i2 i3 i4 i5 nr g u5 u9 (x_La_amountsAreSound_10 fu i1 i2 i3 i4 i5 nr g u5 u9 n) (nI t) (lN (osm v j)) (nI (k + j))) _
    unfold xb_La_amountsAreSound_10
    refine ok_bn (nI_1 t) (ok_gd (inb_nI (by omega) (by decide)) (ok_bn (by rw [nI_clamp (n := t + 1) (by omega), h5']) (ok_t ((nI_leI (by omega) (by omega)).mpr (by omega)) ?_)))
    refine ok_gd (inb_nI (by omega) (by decide)) (ok_bn (by rw [nI_clamp (n := t) (by omega), h5]) (ok_bn (nI_1 t) (ok_gd (inb_nI (by omega) (by decide)) (ok_bn (by rw [nI_clamp (n := t + 1) (by omega), h5']) ?_))))
    by_cases q : l = 0
    · refine ok_t ((nI_leI (by omega) (by omega)).mpr (by omega)) (ok_some (tf_0 fun e => ?_))
      have := e.1
      omega
    · exact ok_f (fun e => by have := (nI_leI (by omega) (by omega)).mp e; omega) (ok_some (tf_1 ⟨by omega, fa_e (by omega)⟩))
  | succ r ih =>
    intro j n hi hn' hs
    obtain ⟨n, rfl⟩ : ∃ m, n = m + 1 := ⟨n - 1, by omega⟩
    show ok (xb_La_amountsAreSound_10 fu i1 i2 i3 i4 i5 nr g u5 u9 (x_La_amountsAreSound_10 fu i1 i2 i3 i4 i5 nr g u5 u9 n) (nI t) (lN (osm v j)) (nI (k + j))) _
    unfold xb_La_amountsAreSound_10
    refine ok_bn (nI_1 t) (ok_gd (inb_nI (by omega) (by decide)) (ok_bn (by rw [nI_clamp (n := t + 1) (by omega), h5']) (ok_f (fun e => by have := (nI_leI (by omega) (by omega)).mp e; omega) ?_)))
    obtain ⟨q1, q2, q3⟩ := hv j (by omega)
    refine ok_bd1 (ok_of (v_La_value fu i1 i2 i3 i4 i5 nr hn g u9 (m := k + j) (by omega) q1 q2) rfl) (fun w hw => ?_)
    subst hw
    rw [← q3]
    have hv8 : v j < 2 ^ 64 := by rw [q3]; exact leP_lt g (at' j) 8
    by_cases c1 : 2 ^ 63 ≤ v j
    · refine ok_t ((am_lo hv8).mpr c1) (ok_some (tf_0 fun e => fa_n (by omega) (fun z => ?_) e.2))
      have := z.1
      omega
    refine ok_f (fun e => c1 ((am_lo hv8).mp e)) ?_
    by_cases c2 : 2100000000000000 < v j
    · refine ok_t ((am_hi (by omega)).mpr c2) (ok_some (tf_0 fun e => fa_n (by omega) (fun z => ?_) e.2))
      have := z.1
      omega
    refine ok_f (fun e => c2 ((am_hi (by omega)).mp e)) (ok_bn (lN_a _ _) ?_)
    by_cases c3 : osm v j + v j ≤ 2100000000000000
    · refine ok_t ((am_le (by omega)).mpr c3) (ok_bn (lN_a _ _) (ok_bn (nI_1 _) ?_))
      refine ok_mono (ih (j + 1) n (by omega) (by omega) c3) (fun x hx => tf_c ?_ hx)
      have e := fa_s (Q := amQ v) (j := j) (n := l) ⟨by omega, c3⟩
      rw [e]
    · refine ok_f (fun e => c3 ((am_le (by omega)).mp e)) (ok_some (tf_0 fun e => fa_n (by omega) (fun z => ?_) e.2))
      exact c3 z.2
set_option maxHeartbeats 400000 in
theorem v_am (fu : Nat) (hfu : 400 ≤ fu) (i1 i2 i3 i4 i5 : Int32) (nr : Nat) (hn : nr < 2 ^ 30) (g u5 u9 : Nat → Int32) {t k l : Nat} {v at' : Nat → Nat} (ht : t < 300) (h5 : u5 t = nI k) (h5' : u5 (t + 1) = nI (k + l)) (hk : k + l ≤ 333) (hv : ∀ m, m < l → u9 (k + m) = nI (at' m) ∧ at' m + 8 ≤ nr ∧ v m = leP g (at' m) 8) : ok (x_La_amountsAreSound fu i1 i2 i3 i4 i5 nr g u5 u9 (nI t)) (tf (0 < l ∧ fa (amQ v) 0 l)) := by
  unfold x_La_amountsAreSound
  refine ok_gd (inb_nI (by omega) (by decide)) (ok_bn (by rw [nI_clamp (n := t) (by omega), h5]) ?_)
  exact l_am fu i1 i2 i3 i4 i5 nr hn g u5 u9 ht h5 h5' hk hv l 0 fu (by omega) (by omega) (by show 0 ≤ _; omega)
set_option maxHeartbeats 400000 in
theorem l_cb (fu : Nat) (i1 i2 i3 i4 i5 : Int32) (nr : Nat) (hn : nr < 2 ^ 30) (g u6 : Nat → Int32) {m a : Nat} (hm : m < 73) (hu : u6 m = nI a) (ha : a + 36 ≤ nr) : ∀ r i n, i + r = 32 → r < n → ok (x_La_isOfCoinbase_2 fu i1 i2 i3 i4 i5 nr g u6 n (nI m) (nI i)) (tf (bl g (a + i) r = List.replicate r 0 ∧ leP g (a + 32) 4 = 4294967295)) := by
  intro r
  induction r with
  | zero =>
    intro i n hi hn'
    obtain ⟨n, rfl⟩ : ∃ m, n = m + 1 := ⟨n - 1, by omega⟩
    show ok (xb_La_isOfCoinbase_2 fu i1 i2 i3 i4 i5 nr g u6 (x_La_isOfCoinbase_2 fu i1 i2 i3 i4 i5 nr g u6 n) (nI m) (nI i)) _
    unfold xb_La_isOfCoinbase_2
    refine ok_t ((nI_leI (a := 32) (by omega) (by omega)).mpr (by omega)) (ok_gd (inb_nI hm (by decide)) (ok_bn (by rw [nI_clamp (n := m) (by omega), hu]) (ok_bn (nI_add a 32) ?_)))
    refine ok_bd1 (ok_of (v_K_word fu nr (by omega) g (o := a + 32) (by omega)) rfl) (fun w hw => ?_)
    subst hw
    have b := leP_lt g (a + 32) 4
    rw [nI_m1]
    by_cases q : leP g (a + 32) 4 = 4294967295
    · exact ok_t ((nI_eq32 (by omega) (by decide)).mpr q) (ok_some (tf_1 ⟨rfl, q⟩))
    · exact ok_f (fun e => q ((nI_eq32 (by omega) (by decide)).mp e)) (ok_some (tf_0 fun e => q e.2))
  | succ r ih =>
    intro i n hi hn'
    obtain ⟨n, rfl⟩ : ∃ m, n = m + 1 := ⟨n - 1, by omega⟩
    show ok (xb_La_isOfCoinbase_2 fu i1 i2 i3 i4 i5 nr g u6 (x_La_isOfCoinbase_2 fu i1 i2 i3 i4 i5 nr g u6 n) (nI m) (nI i)) _
    unfold xb_La_isOfCoinbase_2
    refine ok_f (fun e => by have := (nI_leI (a := 32) (by omega) (by omega)).mp e; omega) (ok_gd (inb_nI hm (by decide)) (ok_bn (by rw [nI_clamp (n := m) (by omega), hu]) (ok_bn (nI_add a i) (ok_gd (inb_nI (by omega) (by omega)) (ok_bn (by rw [nI_clamp (n := a + i) (by omega)]) ?_)))))
    by_cases q : g (a + i) = 0
    · refine ok_t q (ok_bn (nI_1 i) ?_)
      refine ok_mono (ih (i + 1) n (by omega) (by omega)) (fun x hx => tf_c ?_ hx)
      rw [bl_s, q, List.replicate_succ, show a + (i + 1) = a + i + 1 from by omega]
      exact ⟨fun e => ⟨by rw [e.1], e.2⟩, fun e => ⟨(List.cons.inj e.1).2, e.2⟩⟩
    · refine ok_f q (ok_some (tf_0 fun e => q ?_))
      have e := e.1
      rw [bl_s, List.replicate_succ] at e
      exact (List.cons.inj e).1
def isN (L : List Int32) : Prop := L.take 32 = List.replicate 32 0 ∧ leL (L.drop 32) = 4294967295
set_option maxHeartbeats 400000 in
theorem isN_bl (g : Nat → Int32) (a : Nat) : isN (bl g a 36) ↔ bl g a 32 = List.replicate 32 0 ∧ leP g (a + 32) 4 = 4294967295 := by
  unfold isN
  rw [bl_take g 32 36 a (by decide), bl_drop, leL_bl]
set_option maxHeartbeats 400000 in
theorem v_cb (fu : Nat) (hfu : 400 ≤ fu) (i1 i2 i3 i4 i5 : Int32) (nr : Nat) (hn : nr < 2 ^ 30) (g u6 : Nat → Int32) {m a : Nat} (hm : m < 73) (hu : u6 m = nI a) (ha : a + 36 ≤ nr) : ok (x_La_isOfCoinbase fu i1 i2 i3 i4 i5 nr g u6 (nI m)) (tf (isN (bl g a 36))) := by
  unfold x_La_isOfCoinbase
  refine ok_mono (l_cb fu i1 i2 i3 i4 i5 nr hn g u6 hm hu ha 32 0 fu (by omega) (by omega)) (fun x hx => tf_c ?_ hx)
  exact (isN_bl g a).symm
