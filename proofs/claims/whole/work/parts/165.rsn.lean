-- the reference: what isSound asks
set_option maxHeartbeats 400000 in
theorem l_nu (fu : Nat) (z st v9 : Nat → Int32) {m a : Nat} (hm : m < 2600) (hu : v9 m = nI a) (ha : a + 36 ≤ 103000) : ∀ r i n, i + r = 32 → r < n → ok (x_M_isNull_2 fu z st v9 n (nI m) (nI i)) (tf (bl st (a + i) r = List.replicate r 0 ∧ leP st (a + 32) 4 = 4294967295)) := by
  intro r
  induction r with
  | zero =>
    intro i n hi hn'
    obtain ⟨n, rfl⟩ : ∃ m, n = m + 1 := ⟨n - 1, by omega⟩
    show ok (xb_M_isNull_2 fu z st v9 (x_M_isNull_2 fu z st v9 n) (nI m) (nI i)) _
    unfold xb_M_isNull_2
    refine ok_t ((nI_leI (a := 32) (by omega) (by omega)).mpr (by omega)) (ok_gd (inb_nI hm (by decide)) (ok_bn (by rw [nI_clamp (n := m) (by omega), hu]) (ok_bn (nI_add a 32) ?_)))
    refine ok_bd1 (ok_of (m_small fu 103000 (by decide) st (o := a + 32) (by omega)) rfl) (fun w hw => ?_)
    subst hw
    have b := leP_lt st (a + 32) 4
    rw [nI_m1]
    by_cases q : leP st (a + 32) 4 = 4294967295
    · exact ok_t ((nI_eq32 (by omega) (by decide)).mpr q) (ok_some (tf_1 ⟨rfl, q⟩))
    · exact ok_f (fun e => q ((nI_eq32 (by omega) (by decide)).mp e)) (ok_some (tf_0 fun e => q e.2))
  | succ r ih =>
    intro i n hi hn'
    obtain ⟨n, rfl⟩ : ∃ m, n = m + 1 := ⟨n - 1, by omega⟩
    show ok (xb_M_isNull_2 fu z st v9 (x_M_isNull_2 fu z st v9 n) (nI m) (nI i)) _
    unfold xb_M_isNull_2
    refine ok_f (fun e => by have := (nI_leI (a := 32) (by omega) (by omega)).mp e; omega) (ok_gd (inb_nI hm (by decide)) (ok_bn (by rw [nI_clamp (n := m) (by omega), hu]) (ok_bn (nI_add a i) (ok_gd (inb_nI (by omega) (by omega)) (ok_bn (by rw [nI_clamp (n := a + i) (by omega)]) ?_)))))
    by_cases q : st (a + i) = 0
    · refine ok_t q (ok_bn (nI_1 i) ?_)
      refine ok_mono (ih (i + 1) n (by omega) (by omega)) (fun x hx => tf_c ?_ hx)
      rw [bl_s, q, List.replicate_succ, show a + (i + 1) = a + i + 1 from by omega]
      exact ⟨fun e => ⟨by rw [e.1], e.2⟩, fun e => ⟨(List.cons.inj e.1).2, e.2⟩⟩
    · refine ok_f q (ok_some (tf_0 fun e => q ?_))
      have e := e.1
      rw [bl_s, List.replicate_succ] at e
      exact (List.cons.inj e).1
set_option maxHeartbeats 400000 in
theorem v_M_isNull (fu : Nat) (hfu : 400 ≤ fu) (z st v9 : Nat → Int32) {m a : Nat} (hm : m < 2600) (hu : v9 m = nI a) (ha : a + 36 ≤ 103000) : ok (x_M_isNull fu z st v9 (nI m)) (tf (isN (bl st a 36))) := by
  unfold x_M_isNull
  refine ok_mono (l_nu fu z st v9 hm hu ha 32 0 fu (by omega) (by omega)) (fun x hx => tf_c ?_ hx)
  exact (isN_bl st a).symm
set_option maxHeartbeats 400000 in
theorem l_al (fu : Nat) (z st v9 : Nat → Int32) {m k a b : Nat} (hm : m < 2600) (hk : k < 2600) (hu : v9 m = nI a) (hv : v9 k = nI b) (ha : a + 36 ≤ 103000) (hb : b + 36 ≤ 103000) : ∀ r i n, i + r = 36 → r < n → ok (x_M_isAlike_2 fu z st v9 n (nI m) (nI k) (nI i)) (tf (bl st (a + i) r = bl st (b + i) r)) := by
  intro r
  induction r with
  | zero =>
    intro i n hi hn'
    obtain ⟨n, rfl⟩ : ∃ m, n = m + 1 := ⟨n - 1, by omega⟩
    show ok (xb_M_isAlike_2 fu z st v9 (x_M_isAlike_2 fu z st v9 n) (nI m) (nI k) (nI i)) _
    unfold xb_M_isAlike_2
    exact ok_t ((nI_leI (a := 36) (by omega) (by omega)).mpr (by omega)) (ok_some (tf_1 rfl))
  | succ r ih =>
    intro i n hi hn'
    obtain ⟨n, rfl⟩ : ∃ m, n = m + 1 := ⟨n - 1, by omega⟩
    show ok (xb_M_isAlike_2 fu z st v9 (x_M_isAlike_2 fu z st v9 n) (nI m) (nI k) (nI i)) _
    unfold xb_M_isAlike_2
    refine ok_f (fun e => by have := (nI_leI (a := 36) (by omega) (by omega)).mp e; omega) (ok_gd (inb_nI hm (by decide)) (ok_bn (by rw [nI_clamp (n := m) (by omega), hu]) (ok_bn (nI_add a i) (ok_gd (inb_nI (by omega) (by omega)) (ok_bn (by rw [nI_clamp (n := a + i) (by omega)]) ?_)))))
    refine ok_gd (inb_nI hk (by decide)) (ok_bn (by rw [nI_clamp (n := k) (by omega), hv]) (ok_bn (nI_add b i) (ok_gd (inb_nI (by omega) (by omega)) (ok_bn (by rw [nI_clamp (n := b + i) (by omega)]) ?_))))
    by_cases q : st (a + i) = st (b + i)
    · refine ok_t q (ok_bn (nI_1 i) ?_)
      refine ok_mono (ih (i + 1) n (by omega) (by omega)) (fun x hx => tf_c ?_ hx)
      rw [bl_s, bl_s, q, show a + (i + 1) = a + i + 1 from by omega, show b + (i + 1) = b + i + 1 from by omega]
      exact ⟨fun e => by rw [e], fun e => (List.cons.inj e).2⟩
    · refine ok_f q (ok_some (tf_0 fun e => q ?_))
      rw [bl_s, bl_s] at e
      exact (List.cons.inj e).1
set_option maxHeartbeats 400000 in
theorem v_M_isAlike (fu : Nat) (hfu : 400 ≤ fu) (z st v9 : Nat → Int32) {m k a b : Nat} (hm : m < 2600) (hk : k < 2600) (hu : v9 m = nI a) (hv : v9 k = nI b) (ha : a + 36 ≤ 103000) (hb : b + 36 ≤ 103000) : ok (x_M_isAlike fu z st v9 (nI m) (nI k)) (tf (bl st a 36 = bl st b 36)) := by
  unfold x_M_isAlike
  exact l_al fu z st v9 hm hk hu hv ha hb 36 0 fu (by omega) (by omega)
set_option maxHeartbeats 400000 in
theorem l_rg123 (fu : Nat) (z st : Nat → Int32) {b l n r : Nat} (he : b + l ≤ 103000) (ih : ∀ a s, b + l - a ≤ r → a ≤ b + l → ok (x_M_sigsOf_5 fu z st n (nI b) (nI l) (nI s) (nI a)) (fun x => x = nI (s + sgs r (bl st a (b + l - a))))) {s p m : Nat} (hp : p ≤ b + l) (hr : b + l - p ≤ r) (hm : m < 256) : ok (xb_M_sigsOf_123 fu z st (x_M_sigsOf_5 fu z st n) (nI b) (nI l) (nI s) (nI p) (nI m)) (fun x => x = nI (s + sgs r ((bl st p (b + l - p)).drop m))) := by
  unfold xb_M_sigsOf_123
  refine ok_bn (nI_add b l) ?_
  have e : nI (b + l) - nI p = nI (b + l - p) := by
    have := nI_add (b + l - p) p
    rw [show b + l - p + p = b + l from by omega] at this
    rw [← this]
    exact Int32.add_sub_cancel _ _
  rw [e, bl_drop]
  by_cases q : m ≤ b + l - p
  · refine ok_t ((nI_leI (by omega) (by omega)).mpr q) (ok_bn (nI_add p m) (ok_mono (ih (p + m) s (by omega) (by omega)) fun x hx => ?_))
    rw [hx, show b + l - (p + m) = b + l - p - m from by omega]
  · refine ok_f (fun z => q ((nI_leI (by omega) (by omega)).mp z)) (ok_some ?_)
    rw [show b + l - p - m = 0 from by omega, bl_0, sgs_nil]
    rfl
set_option maxHeartbeats 400000 in
theorem l_rg5 (fu : Nat) (z st : Nat → Int32) {b l : Nat} (he : b + l ≤ 103000) : ∀ r n a s, b + l - a ≤ r → r < n → a ≤ b + l → ok (x_M_sigsOf_5 fu z st n (nI b) (nI l) (nI s) (nI a)) (fun x => x = nI (s + sgs r (bl st a (b + l - a)))) := by
  intro r
  induction r with
  | zero =>
    intro n a s h1 h2 h3
    obtain ⟨n, rfl⟩ : ∃ m, n = m + 1 := ⟨n - 1, by omega⟩
    show ok (xb_M_sigsOf_5 fu z st (x_M_sigsOf_5 fu z st n) (nI b) (nI l) (nI s) (nI a)) _
    unfold xb_M_sigsOf_5
    rw [nI_add b l]
    exact ok_t ((nI_leI (by omega) (by omega)).mpr (by omega)) (ok_some rfl)
  | succ r ih =>
    intro n a s h1 h2 h3
    obtain ⟨n, rfl⟩ : ∃ m, n = m + 1 := ⟨n - 1, by omega⟩
    show ok (xb_M_sigsOf_5 fu z st (x_M_sigsOf_5 fu z st n) (nI b) (nI l) (nI s) (nI a)) _
    unfold xb_M_sigsOf_5
    have IH : ∀ a s, b + l - a ≤ r → a ≤ b + l → ok (x_M_sigsOf_5 fu z st n (nI b) (nI l) (nI s) (nI a)) (fun x => x = nI (s + sgs r (bl st a (b + l - a)))) := fun a s x y => ih n a s x (by omega) y
    rw [nI_add b l]
    by_cases c0 : b + l ≤ a
    · refine ok_t ((nI_leI (by omega) (by omega)).mpr c0) (ok_some ?_)
      rw [show b + l - a = 0 from by omega, bl_0, sgs_nil]
      rfl
    obtain ⟨m, hm⟩ : ∃ m, b + l - a = m + 1 := ⟨b + l - a - 1, by omega⟩
    have em : b + l - (a + 1) = m := by omega
    rw [hm, bl_s]
    have hB := By_lt (st a)
    refine ok_f (fun z => c0 ((nI_leI (by omega) (by omega)).mp z)) (ok_gd (inb_nI (by omega) (by omega)) (ok_bn (by rw [nI_clamp (n := a) (by omega)]) (ok_bn (and255 _) (ok_bn (nI_1 a) ?_))))
    rw [show (76 : Int32) = nI 76 from rfl, show (172 : Int32) = nI 172 from rfl, show (173 : Int32) = nI 173 from rfl, show (174 : Int32) = nI 174 from rfl, show (175 : Int32) = nI 175 from rfl, show (0 : Int32) = nI 0 from rfl]
    by_cases c2 : 76 ≤ By (st a)
    · refine ok_t ((nI_leI (by omega) (by omega)).mpr c2) ?_
      by_cases c1 : By (st a) = 76
      · refine ok_t ((nI_eq (by omega) (by omega)).mpr c1) ?_
        by_cases c3 : a + 1 = b + l
        · refine ok_t (by rw [c3]) (ok_some ?_)
          rw [sgs_m r _ c1, show m = 0 from by omega, bl_0, List.drop_nil, sgs_nil]
          rfl
        · refine ok_f (fun z => c3 ((nI_eq (by omega) (by omega)).mp z)) (ok_gd (inb_nI (by omega) (by omega)) (ok_bn (by rw [nI_clamp (n := a + 1) (by omega)]) (ok_bn (and255 _) (ok_bn (nI_1 _) ?_))))
          have hB1 := By_lt (st (a + 1))
          refine ok_mono (l_rg123 fu z st he IH (s := s) (p := a + 1 + 1) (m := By (st (a + 1))) (by omega) (by omega) hB1) (fun x hx => ?_)
          rw [hx, sgs_m r _ c1, bl_get st 0 m (a + 1) 0 (by omega), bl_drop, bl_drop, Nat.add_zero, show a + 1 + 1 + By (st (a + 1)) = a + 1 + (1 + By (st (a + 1))) from by omega, show b + l - (a + 1 + 1) - By (st (a + 1)) = m - (1 + By (st (a + 1))) from by omega]
      refine ok_f (fun z => c1 ((nI_eq (by omega) (by omega)).mp z)) ?_
      have hS := sgs_h r (bl st (a + 1) m) (o := st a) (by omega)
      by_cases d1 : By (st a) = 172
      · refine ok_t ((nI_eq (by omega) (by omega)).mpr d1) ?_
        unfold xb_M_sigsOf_98
        refine ok_bn (nI_1 s) (ok_mono (l_rg123 fu z st he IH (s := s + 1) (p := a + 1) (m := 0) (by omega) (by omega) (by omega)) fun x hx => ?_)
        rw [hx, hS, d1, show sg1 172 = 1 from rfl, em, Nat.add_assoc]
        rfl
      refine ok_f (fun z => d1 ((nI_eq (by omega) (by omega)).mp z)) ?_
      by_cases d2 : By (st a) = 173
      · refine ok_t ((nI_eq (by omega) (by omega)).mpr d2) ?_
        unfold xb_M_sigsOf_98
        refine ok_bn (nI_1 s) (ok_mono (l_rg123 fu z st he IH (s := s + 1) (p := a + 1) (m := 0) (by omega) (by omega) (by omega)) fun x hx => ?_)
        rw [hx, hS, d2, show sg1 173 = 1 from rfl, em, Nat.add_assoc]
        rfl
      refine ok_f (fun z => d2 ((nI_eq (by omega) (by omega)).mp z)) ?_
      by_cases d3 : By (st a) = 174
      · refine ok_t ((nI_eq (by omega) (by omega)).mpr d3) ?_
        unfold xb_M_sigsOf_120
        refine ok_bn (nI_add s 20) (ok_mono (l_rg123 fu z st he IH (s := s + 20) (p := a + 1) (m := 0) (by omega) (by omega) (by omega)) fun x hx => ?_)
        rw [hx, hS, d3, show sg1 174 = 20 from rfl, em, Nat.add_assoc]
        rfl
      refine ok_f (fun z => d3 ((nI_eq (by omega) (by omega)).mp z)) ?_
      by_cases d4 : By (st a) = 175
      · refine ok_t ((nI_eq (by omega) (by omega)).mpr d4) ?_
        unfold xb_M_sigsOf_120
        refine ok_bn (nI_add s 20) (ok_mono (l_rg123 fu z st he IH (s := s + 20) (p := a + 1) (m := 0) (by omega) (by omega) (by omega)) fun x hx => ?_)
        rw [hx, hS, d4, show sg1 175 = 20 from rfl, em, Nat.add_assoc]
        rfl
      refine ok_f (fun z => d4 ((nI_eq (by omega) (by omega)).mp z)) ?_
      refine ok_mono (l_rg123 fu z st he IH (s := s) (p := a + 1) (m := 0) (by omega) (by omega) (by omega)) fun x hx => ?_
      rw [hx, hS, show sg1 (By (st a)) = 0 from by unfold sg1; rw [if_neg (by omega), if_neg (by omega)], em, Nat.zero_add]
      rfl
    · refine ok_f (fun z => c2 ((nI_leI (by omega) (by omega)).mp z)) ?_
      refine ok_mono (l_rg123 fu z st he IH (s := s) (p := a + 1) (m := By (st a)) (by omega) (by omega) hB) fun x hx => ?_
      rw [hx, sgs_l r _ (o := st a) (by omega), em]
set_option maxHeartbeats 400000 in
theorem v_M_sigsOf (fu : Nat) (hfu : 4000 ≤ fu) (z st : Nat → Int32) {a l : Nat} (he : a + l ≤ 103000) (hl : l ≤ 3001) : ok (x_M_sigsOf fu z st (nI a) (nI l)) (fun x => x = nI (sgK (bl st a l))) := by
  unfold x_M_sigsOf
  refine ok_mono (l_rg5 fu z st he 3001 fu a 0 (by omega) (by omega) (by omega)) fun x hx => ?_
  rw [hx, Nat.zero_add, show a + l - a = l from by omega]
  rfl
set_option maxHeartbeats 400000 in
theorem nb_small : ∀ h, h < 128 → 16 < h → nb ((h : Nat) : Int) = [nI h] := by decide +kernel
set_option maxHeartbeats 400000 in
theorem fit_I {x : Int32} (h : fits .byte (.int x) = true) : -128 ≤ x.toInt ∧ x.toInt ≤ 127 := by
  have h' : (decide (-128 ≤ x) && decide (x ≤ 127)) = true := h
  rw [Bool.and_eq_true] at h'
  exact ⟨Int32.le_iff_toInt_le.mp (of_decide_eq_true h'.1), Int32.le_iff_toInt_le.mp (of_decide_eq_true h'.2)⟩
set_option maxHeartbeats 400000 in
theorem fit_By {x : Int32} (h : fits .byte (.int x) = true) {n : Nat} (hn : n < 128) : By x = n ↔ x = nI n := by
  have h1 := fit_I h
  have h2 := i_toInt x
  have h3 := U_lt x
  constructor
  · intro e
    have e : U x % 256 = n := e
    by_cases q : U x < 2 ^ 31
    · rw [if_pos q] at h2
      rw [← nI_U x, show U x = n from by omega]
    · rw [if_neg q] at h2
      omega
  · intro e
    rw [e]
    show U (nI n) % 256 = n
    rw [U_nI (by omega)]
    omega
set_option maxHeartbeats 400000 in
theorem fit_ff {x : Int32} (h : fits .byte (.int x) = true) (hB : By x = 255) : x = -1 := by
  have h1 := fit_I h
  have h2 := i_toInt x
  have h3 := U_lt x
  have e : U x % 256 = 255 := hB
  by_cases q : U x < 2 ^ 31
  · rw [if_pos q] at h2
    omega
  · rw [if_neg q] at h2
    rw [nI_m1, ← nI_U x, show U x = 4294967295 from by omega]
set_option maxHeartbeats 400000 in
/-- inputs of a coinbase are all alike -/
theorem isN_u {st : Nat → Int32} (hst : ftB st) {a b : Nat} (ha : isN (bl st a 36)) (hb : isN (bl st b 36)) : bl st a 36 = bl st b 36 := by
  have key : ∀ a, isN (bl st a 36) → ∀ i, i < 36 → st (a + i) = if i < 32 then 0 else -1 := by
    intro a ha i hi
    obtain ⟨h1, h2⟩ := (isN_bl st a).mp ha
    by_cases q : i < 32
    · rw [if_pos q, ← bl_get st 0 32 a i q, h1]
      have : ∀ i, i < 32 → (List.replicate 32 (0 : Int32)).getD i 0 = 0 := by decide
      exact this i q
    · rw [if_neg q]
      apply fit_ff (hst _)
      replace h2 : 0 + By (st (a + 32 + 0)) * 2 ^ (8 * 0) + By (st (a + 32 + 1)) * 2 ^ (8 * 1) + By (st (a + 32 + 2)) * 2 ^ (8 * 2) + By (st (a + 32 + 3)) * 2 ^ (8 * 3) = 4294967295 := h2
      have b0 := By_lt (st (a + 32 + 0))
      have b1 := By_lt (st (a + 32 + 1))
      have b2 := By_lt (st (a + 32 + 2))
      have b3 := By_lt (st (a + 32 + 3))
      have cs : i = 32 ∨ i = 33 ∨ i = 34 ∨ i = 35 := by omega
      rcases cs with rfl | rfl | rfl | rfl
      · show By (st (a + 32 + 0)) = 255; omega
      · show By (st (a + 32 + 1)) = 255; omega
      · show By (st (a + 32 + 2)) = 255; omega
      · show By (st (a + 32 + 3)) = 255; omega
  exact bl_c 36 a b fun i hi => by rw [key a ha i hi, key b hb i hi]
