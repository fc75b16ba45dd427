-- the row; small calls of the reference
def bt (x : Int32) (k : Nat) : Int32 := (nI (U x / 2 ^ k % 256)).toInt8.toInt32
set_option maxHeartbeats 1000000 in
theorem t8_e {x y : Int32} (h : U x % 256 = U y % 256) : x.toInt8.toInt32 = y.toInt8.toInt32 := by
  have : x.toInt8 = y.toInt8 := by
    apply Int8.toBitVec_inj.mp
    apply BitVec.eq_of_toNat_eq
    have e : ∀ x : Int32, x.toInt8.toBitVec.toNat = U x % 256 := fun x => by
      show (x.toBitVec.signExtend 8).toNat = _
      rw [BitVec.signExtend_eq_setWidth_of_le _ (by decide), BitVec.toNat_setWidth]
      rfl
    rw [e, e, h]
  rw [this]
set_option maxHeartbeats 1000000 in
theorem bt_ar (x s : Int32) {k : Nat} (hk : k = 0 ∨ k = 8 ∨ k = 16 ∨ k = 24) (hs : (s.toBitVec.smod 32).toNat = k) : (x >>> s).toInt8.toInt32 = bt x k := by
  refine t8_e ?_
  have h1 := pk_shr x s k hs
  have h2 := i_toInt (x >>> s)
  have h3 := i_toInt x
  have l1 := U_lt (x >>> s)
  have l2 := U_lt x
  rw [U_nI (by omega)]
  rw [h2, h3, Int.shiftRight_eq_div_pow] at h1
  generalize U (x >>> s) = A at *
  generalize U x = B at *
  rcases hk with rfl | rfl | rfl | rfl <;> split at h1 <;> split at h1 <;> simp only [Nat.reducePow] at * <;> omega
set_option maxHeartbeats 1000000 in
theorem bt_us (x s : Int32) {k : Nat} (hs : ((s.toUInt32 &&& Int32.toUInt32 31).toBitVec % 32).toNat = k) : ((x.toUInt32 >>> (s.toUInt32 &&& Int32.toUInt32 31)).toInt32).toInt8.toInt32 = bt x k := by
  refine t8_e ?_
  have h1 := pk_ushr x s k hs
  rw [U_nI (by omega), show U ((x.toUInt32 >>> (s.toUInt32 &&& Int32.toUInt32 31)).toInt32) = U x / 2 ^ k from h1, Nat.mod_mod]
def f4L (x : Int32) : Nat → List Int32
  | 0 => []
  | q + 1 => bt x (8 * q) :: f4L x q
/-- the row is R -/
def rRow (z row : Nat → Int32) (R : List Int32) : Prop := z 0 = nI R.length ∧ R.length ≤ 3000 ∧ (∀ j, j < R.length → row j = lf R j) ∧ ftB row ∧ ftB (lf R)
set_option maxHeartbeats 1000000 in
theorem lf_ap {R : List Int32} {x : Int32} {j : Nat} : lf (R ++ [x]) j = if j = R.length then x else lf R j := by
  show ((R ++ [x])[j]?).getD 0 = _
  by_cases h : j < R.length
  · rw [List.getElem?_append_left h, if_neg (by omega)]; rfl
  · rw [List.getElem?_append_right (by omega)]
    by_cases e : j = R.length
    · rw [if_pos e, e, Nat.sub_self]; rfl
    · rw [if_neg e, List.getElem?_eq_none (by show 1 ≤ _; omega)]
      show 0 = (R[j]?).getD 0
      rw [List.getElem?_eq_none (by omega)]; rfl
set_option maxHeartbeats 1000000 in
theorem rRow_p {z row : Nat → Int32} {R : List Int32} (h : rRow z row R) (hl : R.length < 3000) {b : Int32} (hb : fits .byte (.int b) = true) : rRow (upd z 0 (nI (R.length + 1))) (upd row R.length b) (R ++ [b]) := by
  obtain ⟨h1, h2, h3, h4, h5⟩ := h
  have e : (R ++ [b]).length = R.length + 1 := by rw [List.length_append]; rfl
  refine ⟨by rw [e]; exact pk_us, by rw [e]; omega, fun j hj => ?_, fun j => ?_, fun j => ?_⟩
  · rw [lf_ap]
    by_cases q : j = R.length
    · rw [q, pk_us, if_pos rfl]
    · rw [pk_un q, if_neg q]; exact h3 j (by omega)
  · by_cases q : j = R.length
    · rw [q, pk_us]; exact hb
    · rw [pk_un q]; exact h4 j
  · rw [lf_ap]
    by_cases q : j = R.length
    · rw [if_pos q]; exact hb
    · rw [if_neg q]; exact h5 j
def z0f (z z' : Nat → Int32) : Prop := ∀ j, j ≠ 0 → z' j = z j
set_option maxHeartbeats 1000000 in
theorem l_four (fu : Nat) (x : Int32) : ∀ q n z row R, q ≤ 4 → q < n → rRow z row R → R.length + q ≤ 3000 → ok (x_M_four_3 fu n x (nI (8 * q) + (-8)) z row) (fun t => rRow t.1 t.2 (R ++ f4L x q) ∧ z0f z t.1)
  | 0, n + 1, z, row, R, _, _, h, _ => by
    show ok (xb_M_four_3 fu (x_M_four_3 fu n) x (nI (8 * 0) + (-8)) z row) _
    unfold xb_M_four_3
    refine ok_t (by decide) (ok_some ⟨?_, fun j _ => rfl⟩)
    show rRow z row (R ++ [])
    rw [List.append_nil]; exact h
  | q + 1, n + 1, z, row, R, hq, hn, h, hl => by
    show ok (xb_M_four_3 fu (x_M_four_3 fu n) x (nI (8 * (q + 1)) + (-8)) z row) _
    have e : nI (8 * (q + 1)) + (-8) = nI (8 * q) := by
      have cs : q = 0 ∨ q = 1 ∨ q = 2 ∨ q = 3 := by omega
      rcases cs with rfl | rfl | rfl | rfl <;> rfl
    rw [e]
    unfold xb_M_four_3
    refine ok_f (fun g => absurd ((nI_ltI (a := 8 * q) (b := 0) (by omega) (by omega)).mp g) (Nat.not_lt_zero _)) ?_
    rw [h.1]
    refine ok_bn (e' := nI (R.length + 1)) (nI_add _ 1) (ok_bnd (ok_bn (e' := bt x (8 * q)) (bt_ar x _ (k := 8 * q) (by omega) ?_) (ok_gd (inb_nI (by omega) (by decide)) ?_)))
    · have cs : q = 0 ∨ q = 1 ∨ q = 2 ∨ q = 3 := by omega
      rcases cs with rfl | rfl | rfl | rfl <;> decide
    rw [nI_clamp (n := R.length) (by omega), show vp_nar .byte (bt x (8 * q)) = bt x (8 * q) from pk_vb _]
    refine ok_bnd (ok_bnd ?_)
    have ih := l_four fu x q n _ _ (R ++ [bt x (8 * q)]) (by omega) (by omega) (rRow_p h (by omega) (pk_fb _)) (by rw [List.length_append]; show R.length + 1 + q ≤ 3000; omega)
    refine ok_mono ih fun t ht => ⟨?_, fun j hj => by rw [ht.2 j hj, pk_un hj]⟩
    have := ht.1
    rw [List.append_assoc] at this
    exact this
set_option maxHeartbeats 1000000 in
theorem f4L_len (x : Int32) : ∀ q, (f4L x q).length = q
  | 0 => rfl
  | q + 1 => by show (f4L x q).length + 1 = q + 1; rw [f4L_len x q]
set_option maxHeartbeats 1000000 in
theorem v_M_four (fu : Nat) (hfu : 5 ≤ fu) (x : Int32) {z row : Nat → Int32} {R : List Int32} (h : rRow z row R) (hl : R.length + 4 ≤ 3000) : ok (x_M_four fu x z row) (fun t => rRow t.1 t.2 (R ++ f4L x 4) ∧ z0f z t.1) := by
  unfold x_M_four
  exact l_four fu x 4 fu z row R (by decide) (by omega) h hl
/-- twenty bytes -/
def fd (a b c d e : Int32) : List Int32 := f4L a 4 ++ (f4L b 4 ++ (f4L c 4 ++ (f4L d 4 ++ f4L e 4)))
set_option maxHeartbeats 1000000 in
theorem fd_len (a b c d e : Int32) : (fd a b c d e).length = 20 := by
  unfold fd
  simp only [List.length_append, f4L_len]
def z02 (z z' : Nat → Int32) : Prop := ∀ j, j ≠ 0 → j ≠ 2 → z' j = z j
set_option maxHeartbeats 1000000 in
theorem rRow_2 {z row : Nat → Int32} {R : List Int32} (h : rRow z row R) (x : Int32) : rRow (upd z 2 x) row R := ⟨by rw [pk_un (by decide)]; exact h.1, h.2⟩
set_option maxHeartbeats 1000000 in
theorem z02_2 (z : Nat → Int32) (x : Int32) : z02 z (upd z 2 x) := fun j _ hj => pk_un hj
set_option maxHeartbeats 1000000 in
theorem v_M_feed (fu : Nat) (hfu : 5 ≤ fu) (a b c d e : Int32) {z row : Nat → Int32} {R : List Int32} (h : rRow z row R) : ok (x_M_feed fu a b c d e z row) (fun t => z02 z t.2.1 ∧ ((R.length + 20 ≤ 3000 ∧ t.1 = nI (R.length + 20) ∧ t.2.1 2 = 0 ∧ rRow t.2.1 t.2.2 (R ++ fd a b c d e)) ∨ (3000 < R.length + 20 ∧ t.2.1 2 = 1 ∧ rRow t.2.1 t.2.2 R))) := by
  have hl := h.2.1
  unfold x_M_feed
  rw [h.1]
  refine ok_bn (e' := nI (R.length + 20)) (nI_add _ 20) ?_
  by_cases q : R.length + 20 ≤ 3000
  · refine ok_t ((nI_leI (a := R.length + 20) (b := 3000) (by omega) (by omega)).mpr q) ?_
    unfold xb_M_feed_19
    refine ok_bnd (ok_t (by rw [pk_us]; decide) ?_)
    have h0 := rRow_2 h 0
    have L : ∀ x : Int32, (f4L x 4).length = 4 := fun x => f4L_len x 4
    refine ok_bd2 (v_M_four fu hfu a h0 (by omega)) (fun z1 r1 q1 => ?_)
    refine ok_bd2 (v_M_four fu hfu b q1.1 (by simp only [List.length_append, L]; omega)) (fun z2 r2 q2 => ?_)
    refine ok_bd2 (v_M_four fu hfu c q2.1 (by simp only [List.length_append, L]; omega)) (fun z3 r3 q3 => ?_)
    refine ok_bd2 (v_M_four fu hfu d q3.1 (by simp only [List.length_append, L]; omega)) (fun z4 r4 q4 => ?_)
    refine ok_bd2 (v_M_four fu hfu e q4.1 (by simp only [List.length_append, L]; omega)) (fun z5 r5 q5 => ?_)
    have eL : R ++ f4L a 4 ++ f4L b 4 ++ f4L c 4 ++ f4L d 4 ++ f4L e 4 = R ++ fd a b c d e := by unfold fd; simp only [List.append_assoc]
    obtain ⟨q5a, q5b⟩ := q5
    replace q5a : rRow z5 r5 (R ++ f4L a 4 ++ f4L b 4 ++ f4L c 4 ++ f4L d 4 ++ f4L e 4) := q5a
    rw [eL] at q5a
    have K : ∀ j, j ≠ 0 → z5 j = upd z 2 0 j := fun j hj => (q5b j hj).trans ((q4.2 j hj).trans ((q3.2 j hj).trans ((q2.2 j hj).trans (q1.2 j hj))))
    refine ok_some ⟨fun j h1 h2 => ?_, Or.inl ⟨q, ?_, ?_, q5a⟩⟩
    · show z5 j = z j
      rw [K j h1, pk_un h2]
    · show z5 0 = _
      rw [q5a.1, List.length_append, fd_len]
    · show z5 2 = 0
      rw [K 2 (by decide), pk_us]
  · refine ok_f (fun g => q ((nI_leI (a := R.length + 20) (b := 3000) (by omega) (by omega)).mp g)) ?_
    unfold xb_M_feed_19
    refine ok_bnd (ok_f (by rw [pk_us]; decide) (ok_some ⟨z02_2 z 1, Or.inr ⟨by omega, (show upd z 2 1 2 = 1 from pk_us), rRow_2 h 1⟩⟩))
set_option maxHeartbeats 1000000 in
theorem lf_tk (R : List Int32) (n : Nat) {j : Nat} (hj : j < n) : lf (R.take n) j = lf R j := by
  show ((R.take n)[j]?).getD 0 = (R[j]?).getD 0
  rw [List.getElem?_take, if_pos hj]
set_option maxHeartbeats 1000000 in
theorem lf_tf {R : List Int32} (h : ftB (lf R)) (n : Nat) : ftB (lf (R.take n)) := fun j => by
  by_cases q : j < n
  · rw [lf_tk R n q]; exact h j
  · show fits .byte (.int (((R.take n)[j]?).getD 0)) = true
    rw [List.getElem?_take, if_neg q]; decide
set_option maxHeartbeats 1000000 in
theorem v_M_end (fu : Nat) (a : Int32) {z row : Nat → Int32} {R : List Int32} (h : rRow z row R) : ok (x_M_end fu a z) (fun t => z02 z t.2 ∧ ((∃ n, n ≤ R.length ∧ a = nI n ∧ t.1 = nI n ∧ t.2 2 = 0 ∧ rRow t.2 row (R.take n)) ∨ ((∀ n, n ≤ R.length → a ≠ nI n) ∧ t.2 2 = 1 ∧ rRow t.2 row R))) := by
  have hl := h.2.1
  have bad : (∀ n, n ≤ R.length → a ≠ nI n) → ok (xb_M_end_13 fu a z) (fun t => z02 z t.2 ∧ ((∃ n, n ≤ R.length ∧ a = nI n ∧ t.1 = nI n ∧ t.2 2 = 0 ∧ rRow t.2 row (R.take n)) ∨ ((∀ n, n ≤ R.length → a ≠ nI n) ∧ t.2 2 = 1 ∧ rRow t.2 row R))) := fun q => by
    unfold xb_M_end_13 xb_M_end_18
    exact ok_bnd (ok_f (by rw [pk_us]; decide) (ok_some ⟨z02_2 z 1, Or.inr ⟨q, (show upd z 2 1 2 = 1 from pk_us), rRow_2 h 1⟩⟩))
  unfold x_M_end
  rcases pk_ix a (n := R.length + 1) (by omega) with q | q | ⟨n, q, rfl⟩
  · exact ok_t q (bad fun n hn e => by rw [e] at q; exact absurd ((nI_ltI (a := n) (b := 0) (by omega) (by omega)).mp q) (Nat.not_lt_zero _))
  · have q0 : ¬ a < 0 := fun g => by
      have h1 : nI (R.length + 1) < 0 := Int32.lt_of_le_of_lt q g
      exact absurd ((nI_ltI (a := R.length + 1) (b := 0) (by omega) (by omega)).mp h1) (Nat.not_lt_zero _)
    refine ok_f q0 (ok_f ?_ (bad fun n hn e => ?_))
    · rw [h.1]
      intro g
      have h1 : nI (R.length + 1) ≤ nI R.length := Int32.le_trans q g
      exact absurd ((nI_leI (a := R.length + 1) (b := R.length) (by omega) (by omega)).mp h1) (by omega)
    · rw [e] at q
      exact absurd ((nI_leI (a := R.length + 1) (b := n) (by omega) (by omega)).mp q) (by omega)
  · refine ok_f (fun g => absurd ((nI_ltI (a := n) (b := 0) (by omega) (by omega)).mp g) (Nat.not_lt_zero _)) (ok_t (by rw [h.1]; exact (nI_leI (a := n) (b := R.length) (by omega) (by omega)).mpr (by omega)) ?_)
    unfold xb_M_end_18
    refine ok_bnd (ok_t (by rw [pk_us]; decide) (ok_bnd (ok_some ⟨fun j h1 h2 => (pk_un h1).trans (pk_un (f := z) h2), Or.inl ⟨n, by omega, rfl, rfl, ?_, ?_⟩⟩)))
    · show upd (upd z 2 0) 0 (nI n) 2 = 0
      rw [pk_un (by decide), pk_us]
    · have e : (R.take n).length = n := by rw [List.length_take]; omega
      refine ⟨by rw [e]; exact (show upd (upd z 2 0) 0 (nI n) 0 = nI n from pk_us), by rw [e]; omega, fun j hj => ?_, h.2.2.2.1, lf_tf h.2.2.2.2 n⟩
      rw [e] at hj
      rw [lf_tk R n hj]
      exact h.2.2.1 j (by omega)
