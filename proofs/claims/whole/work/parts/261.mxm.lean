-- sums of values; a transaction's coins go and come, in the memory
set_option maxHeartbeats 400000 in
theorem leF_at {P P' : Nat → Prop} {q q' : Nat → Nat} {C C' : Nat → va_E} {M : Mm} (hF : leF P q C P' q' C') (hM : RG P' q' C' M) {k : Nat} (hk : P k) (h : k < 256 ∧ k ≠ 131 ∧ k ≠ 132 ∧ k ≠ 220 ∧ k ≠ 221) {x : va_E} (e : C k = x) : mat M (q k) x := by
  rw [← hF.2.2.1 k h.2.2.2.1 h.2.2.2.2]
  exact g_at hM (hF.1 k hk) ((hF.2.2.2 k h.1 h.2.1 h.2.2.1 h.2.2.2.1 h.2.2.2.2).trans e)
set_option maxHeartbeats 400000 in
theorem l_vo10 (fu : Nat) (i1 i2 i3 i4 i5 : Int32) (nr : Nat) (hn : nr < 2 ^ 30) (g u5 u9 : Nat → Int32) {t o0 n : Nat} (ht : t + 1 < 301) (h5 : u5 (t + 1) = nI (o0 + n)) (ho : o0 + n ≤ 333) {O : List In3} (hO : O.length = n) (hu : ∀ j, j < n → u9 (o0 + j) = nI (O.getD j d3).1 ∧ (O.getD j d3).1 + 8 ≤ nr) : ∀ r j m, j + r = n → r < m → ok (x_La_valueOut_10 fu i1 i2 i3 i4 i5 nr g u5 u9 m (nI t) (lN (sumL (fun o : In3 => leP g o.1 8) (O.take j))) (nI (o0 + j))) (fun v => v = lN (sumL (fun o : In3 => leP g o.1 8) O)) := by
  intro r
  induction r with
  | zero =>
    intro j m hj hm
    obtain ⟨m, rfl⟩ : ∃ k, m = k + 1 := ⟨m - 1, by omega⟩
    show ok (xb_La_valueOut_10 fu i1 i2 i3 i4 i5 nr g u5 u9 (x_La_valueOut_10 fu i1 i2 i3 i4 i5 nr g u5 u9 m) (nI t) (lN (sumL (fun o : In3 => leP g o.1 8) (O.take j))) (nI (o0 + j))) _
    unfold xb_La_valueOut_10
    exact ok_bn (nI_1 t) (ok_gd (inb_nI ht (by decide)) (ok_bn (by rw [nI_clamp (n := t + 1) (by omega), h5]) (ok_t ((nI_leI (a := o0 + n) (b := o0 + j) (by omega) (by omega)).mpr (by omega)) (ok_some (by rw [List.take_of_length_le (by omega)])))))
  | succ r ih =>
    intro j m hj hm
    obtain ⟨m, rfl⟩ : ∃ k, m = k + 1 := ⟨m - 1, by omega⟩
    show ok (xb_La_valueOut_10 fu i1 i2 i3 i4 i5 nr g u5 u9 (x_La_valueOut_10 fu i1 i2 i3 i4 i5 nr g u5 u9 m) (nI t) (lN (sumL (fun o : In3 => leP g o.1 8) (O.take j))) (nI (o0 + j))) _
    unfold xb_La_valueOut_10
    obtain ⟨a, b⟩ := hu j (by omega)
    refine ok_bn (nI_1 t) (ok_gd (inb_nI ht (by decide)) (ok_bn (by rw [nI_clamp (n := t + 1) (by omega), h5]) (ok_f (fun z => absurd ((nI_leI (a := o0 + n) (b := o0 + j) (by omega) (by omega)).mp z) (by omega)) (ok_bd1 (ok_of (v_La_value fu i1 i2 i3 i4 i5 nr hn g u9 (m := o0 + j) (by omega) a b) rfl) (fun w hw => ?_)))))
    subst hw
    refine ok_bn (lN_a _ _) (ok_bn (nI_1 (o0 + j)) ?_)
    have := ih (j + 1) m (by omega) (by omega)
    rw [sumL_tk (fun o : In3 => leP g o.1 8) d3 O (by omega)] at this
    exact this
set_option maxHeartbeats 1000000 in
theorem w_VO (fu : Nat) (hfu : 400 ≤ fu) {cy : Nat → ClassId} {P : Nat → Prop} {q : Nat → Nat} {C : Nat → va_E} {M : Mm} (hM : RG P q C M) (hq : IJ P q) (hP : ∀ k, k < 138 ∧ k ≠ 29 ∧ k ≠ 137 ∧ k ≠ 135 → P k) {ks nr E a0 t : Nat} {TL : List Tx5} {u3 u4 u5 u6 u7 u8 u9 u10 u11 : Nat → Int32} (hl : lyR C q cy (.ref (q ks)) E TL u3 u4 u5 u6 u7 u8 u9 u10 u11) (hks : P ks) (hk : ks < 120 ∨ 129 < ks) {g : Nat → Int32} (eks : C ks = .inl (cy 0, nr, .inl g)) (hn : nr ≤ 3000) (hE : E ≤ nr) (hT : txB E TL a0) (ht : t < TL.length) (K : Int64 → Mm → Prop) (hK : ∀ M', RG P q C M' → K (lN (sumL (fun o : In3 => leP g o.1 8) (TL.getD t d5).2.2.2.1)) M') : ∃ (b13 : Value) (b14 : Value) (b15 : Value) (b16 : Value) (b17 : Value) (b18 : Value) (b19 : Value) (b20 : Nat) (b21 : Nat) (b22 : Nat) (c23 : Int32) (c24 : Int32) (c25 : Int32) (c26 : Int32) (c27 : Int32) (c28 : Nat) (c29 : Nat → Int32) (c30 : Nat → Int32) (c31 : Nat → Int32), mal M [((q 120), .inr (4, [.ref b20, .int c23, b13, b14, .ref b21, b15, b16, b17, .ref b22, b18, b19, .int c24, .int c25, .int c26, .int c27])), (b20, .inl (cy 0, c28, .inl c29)), (b21, .inl (cy 1, 301, .inl c30)), (b22, .inl (cy 1, 333, .inl c31))] ∧ mnd (List.map (fun x : Nat × va_E => x.1) [((q 120), .inr (4, [.ref b20, .int c23, b13, b14, .ref b21, b15, b16, b17, .ref b22, b18, b19, .int c24, .int c25, .int c26, .int c27])), (b20, .inl (cy 0, c28, .inl c29)), (b21, .inl (cy 1, 301, .inl c30)), (b22, .inl (cy 1, 333, .inl c31))]) ∧ ∃ (v32 : Int64), x_La_valueOut fu c23 c24 c25 c26 c27 c28 c29 c30 c31 (nI t) = some (v32) ∧ bnd (mov M [((q 120), .inr (4, [.ref b20, .int c23, b13, b14, .ref b21, b15, b16, b17, .ref b22, b18, b19, .int c24, .int c25, .int c26, .int c27])), (b20, .inl (cy 0, c28, .inl c29)), (b21, .inl (cy 1, 301, .inl c30)), (b22, .inl (cy 1, 333, .inl c31))]) fun M33 => K v32 M33 := by
  obtain ⟨⟨b0, a1, a2, a3, a4, a5, a6, a7, a8, a9⟩, hL⟩ := hl
  have hnn := txB_n TL a0 hT
  have hm1 := nOut_m2 TL (t := t + 1) (t' := TL.length) (by omega)
  rw [List.take_length, nOut_tk TL t ht] at hm1
  obtain ⟨⟨-, -, -, -, x5, x6⟩, -, y2⟩ := laH_x TL 0 0 0 hL t ht
  rw [Nat.zero_add] at x5 x6 y2
  rw [Nat.zero_add] at x5 x6
  rw [nOut_tk TL t ht] at x6
  have he : ok (x_La_valueOut fu (nI TL.length) (nI E) (nI E) (nI (nIn TL)) (nI (nOut TL)) nr g u5 u9 (nI t)) (fun v => v = lN (sumL (fun o : In3 => leP g o.1 8) (TL.getD t d5).2.2.2.1)) := by
    unfold x_La_valueOut
    refine ok_gd (inb_nI (by omega) (by decide)) (ok_bn (by rw [nI_clamp (n := t) (by omega), x5]) ?_)
    exact l_vo10 fu (nI TL.length) (nI E) (nI E) (nI (nIn TL)) (nI (nOut TL)) nr (by omega) g u5 u9 (o0 := nOut (TL.take t)) (n := (TL.getD t d5).2.2.2.1.length) (by omega) x6 (by omega) rfl (fun j hj => by
      have hO := (txB_at TL a0 hT _ (gDm ht)).2.1 ((TL.getD t d5).2.2.2.1.getD j d3) (by rw [← gD3 _ hj]; exact List.getElem_mem hj)
      have z1 := (y2 j hj).1
      rw [gD3 _ hj] at z1
      exact ⟨z1, by omega⟩) (TL.getD t d5).2.2.2.1.length 0 fu (Nat.zero_add _) (by omega)
  obtain ⟨v, he, hv⟩ := he
  subst hv
  have hin : ∀ k, k ∈ [120, ks, 123, 127] → P k := fun k hk => by
    simp only [List.mem_cons, List.not_mem_nil, or_false] at hk
    rcases hk with e | e | e | e
    · exact hP _ (by omega)
    · rw [e]; exact hks
    · exact hP _ (by omega)
    · exact hP _ (by omega)
  refine ⟨_, _, _, _, _, _, _, _, _, _, _, _, _, _, _, _, _, _, _, mal_c (g_at hM (hP 120 (by decide)) b0) (mal_c (g_at hM hks eks) (mal_c (g_at hM (hP 123 (by decide)) a3) (mal_c (g_at hM (hP 127 (by decide)) a7) (mal_n _)))), gnd hq [120, ks, 123, 127] hin ?_, _, he, ?_⟩
  · simp only [List.nodup_cons, List.mem_cons, List.not_mem_nil, not_false_eq_true, List.nodup_nil, and_true, or_false]
    omega
  · have L := g_lf (K := K (lN (sumL (fun o : In3 => leP g o.1 8) (TL.getD t d5).2.2.2.1))) hM hq C [120, ks, 123, 127] hin (fun k _ _ => rfl) (fun M' hM' => hK M' hM')
    rw [show [120, ks, 123, 127].map (fun k => (q k, C k)) = [(q 120, C 120), (q ks, C ks), (q 123, C 123), (q 127, C 127)] from rfl, b0, eks, a3, a7] at L
    exact L
set_option maxHeartbeats 400000 in
set_option maxHeartbeats 2000000 in
/-- the values of what is spent -/
theorem w_sv13 (fu MC MS : Nat) (cy : Nat → ClassId) (ad : Nat → Nat) (mi : Nat) {P : Nat → Prop} {q : Nat → Nat} {C : Nat → va_E} {nb : Nat} {par hgt tim : Nat → Nat} {bit : Nat → Int32} {bad : Nat → Bool} {rw : Nat → List Int32} {vl : Nat → Bool} {mk : Nat → Nat} (hP : ∀ k, k < 138 ∧ k ≠ 29 ∧ k ≠ 137 ∧ k ≠ 135 → P k) {rl tk ck' : Int32} {tp : Nat} (hK : C 103 = kpO q rl tp tk ck') {b t : Nat} (hb : b < nb) (hbk : bkS rw hgt tim b) (ht : t < (TLb rw b).length) {u3 u4 u5 u6 u7 u8 u9 u10 u11 : Nat → Int32} (hl : lyR C q cy (.ref (q (kB b + 1))) (rw b).length (TLb rw b) u3 u4 u5 u6 u7 u8 u9 u10 u11) {f : Nat → Option Nat} (h134 : C 134 = spA cy f) {M : Mm} (hM : RG P q C M) {sl : Cn → Int32} (hB : bkR P q C cy nb par hgt tim bit bad rw vl mk sl) {cs : List Cn} (hcl : cs.length = (txO rw b t).2.1.length) (hf : ∀ k, k < (txO rw b t).2.1.length → cVd rw nb (cs.getD k e_C) ∧ f (nIn ((TLb rw b).take t) + k) = some (q (ck rw (cs.getD k e_C)))) {κ σ : Nat} {Φ : Int64 → Mm → Prop} (hΦ : Φ (lN (sumL (cnV rw) cs)) M) : ∀ r k m, k + r = (txO rw b t).2.1.length → r < m → xw_mK_spentValue_13 fu MC MS cy ad mi Φ m κ σ M (q 103) (nI t) (lN (sumL (cnV rw) (cs.take k))) (nI (nIn ((TLb rw b).take t) + k))
  | r, k, m + 1, hk, hm => by
    show xv_mK_spentValue_13 fu MC MS cy ad mi Φ (xw_mK_spentValue_13 fu MC MS cy ad mi Φ m) κ σ M (q 103) (nI t) (lN (sumL (cnV rw) (cs.take k))) (nI (nIn ((TLb rw b).take t) + k))
    unfold xv_mK_spentValue_13
    have hnn := bk_n hbk
    have h3000 := hbk.2.1
    have hmm := nIn_m2 (TLb rw b) (t := t + 1) (t' := (TLb rw b).length) (by omega)
    rw [List.take_length] at hmm
    have htk : nIn ((TLb rw b).take (t + 1)) = nIn ((TLb rw b).take t) + (txO rw b t).2.1.length := nIn_tk (TLb rw b) t ht
    obtain ⟨⟨b0, a1, a2, a3, a4⟩, hL⟩ := id hl
    obtain ⟨⟨-, -, x3, x4, -, -⟩, -⟩ := laH_x (TLb rw b) 0 0 0 hL t ht
    rw [Nat.zero_add, Nat.zero_add] at x3 x4
    have m103 := g_at hM (hP 103 (by decide)) hK
    have m120 := g_at hM (hP 120 (by decide)) b0
    have m122 := g_at hM (hP 122 (by decide)) a2
    have m134 := g_at hM (hP 134 (by decide)) h134
    refine m_gr m103 rfl (m_gr m120 rfl (m_bn (e' := nI (t + 1)) (nI_add t 1) (m_ai m122 (inb_nI (by omega) (by decide)) ?_)))
    rw [nI_clamp (n := t + 1) (by omega), x4]
    match r, hk, hm with
    | 0, hk, hm =>
      have ec : cs.take k = cs := List.take_of_length_le (by omega)
      rw [ec]
      exact m_t ((nI_leI (a := nIn ((TLb rw b).take (t + 1))) (b := nIn ((TLb rw b).take t) + k) (by omega) (by omega)).mpr (by omega)) hΦ
    | r + 1, hk, hm =>
      obtain ⟨hc1, hc2⟩ := hf k (by omega)
      obtain ⟨pc, cc⟩ := hB.2 _ hc1
      have hcl' : (nI (nIn ((TLb rw b).take t) + k)).toNatClampNeg = nIn ((TLb rw b).take t) + k := nI_clamp (n := nIn ((TLb rw b).take t) + k) (by omega)
      refine m_f (fun z => absurd ((nI_leI (a := nIn ((TLb rw b).take (t + 1))) (b := nIn ((TLb rw b).take t) + k) (by omega) (by omega)).mp z) (by omega)) (m_gr m103 rfl (m_arp m134 (inb_nI (by omega) (by decide)) (by rw [hcl']; exact hc2) (m_gj (g_at hM pc cc) rfl (m_bn (e' := lN (sumL (cnV rw) (cs.take (k + 1)))) (by rw [sumL_tk (cnV rw) e_C cs (by omega)]; exact lN_a _ _) (m_bn (e' := nI (nIn ((TLb rw b).take t) + (k + 1))) (nI_add (nIn ((TLb rw b).take t) + k) 1) ?_)))))
      exact w_sv13 fu MC MS cy ad mi hP hK hb hbk ht hl h134 hM hB hcl hf hΦ r (k + 1) m (by omega) (by omega)
set_option maxHeartbeats 2000000 in
theorem w_ex58 (fu MC MS : Nat) (cy : Nat → ClassId) (ad : Nat → Nat) (mi : Nat) {P : Nat → Prop} {q : Nat → Nat} {C : Nat → va_E} {nb : Nat} {par hgt tim : Nat → Nat} {bit : Nat → Int32} {bad : Nat → Bool} {rw : Nat → List Int32} {vl : Nat → Bool} {mk : Nat → Nat} (hP : ∀ k, k < 138 ∧ k ≠ 29 ∧ k ≠ 137 ∧ k ≠ 135 → P k) {rl tk ck' : Int32} {tp : Nat} (hK : C 103 = kpO q rl tp tk ck') {b t : Nat} (hb : b < nb) (hbk : bkS rw hgt tim b) (ht : t < (TLb rw b).length) {u3 u4 u5 u6 u7 u8 u9 u10 u11 : Nat → Int32} (hl : lyR C q cy (.ref (q (kB b + 1))) (rw b).length (TLb rw b) u3 u4 u5 u6 u7 u8 u9 u10 u11) {f : Nat → Option Nat} (h134 : C 134 = spA cy f) {N : Nat} (hN : 2 * N + 10 ≤ 60000) (hNf : 2 * N + 200 ≤ fu) (hO : oK rw nb) (hp : ∀ k, 0 < k → par k < k) (hr0 : TLb rw 0 = []) {s : Ld} (hI : ldI rw nb N s) (hN2 : s.2.1.length + 2 * (txO rw b t).2.2.2.1.length ≤ N) {Φ : Mm → Prop} (hΦ : ∀ M' P' q' C', RG P' q' C' M' → ldM P' q' C' cy ad nb par hgt tim bit bad rw vl mk (ptN rw b t s (txO rw b t).2.2.2.1.length) → leF P q C P' q' C' → Φ M') : ∀ r j m κ σ P' q' C' M, j + r = (txO rw b t).2.2.2.1.length → r < m → RG P' q' C' M → ldM P' q' C' cy ad nb par hgt tim bit bad rw vl mk (ptN rw b t s j) → leF P q C P' q' C' → κ + grS (ptN rw b t s j) (ptN rw b t s (txO rw b t).2.2.2.1.length) ≤ MC ∧ σ + 4 * grS (ptN rw b t s j) (ptN rw b t s (txO rw b t).2.2.2.1.length) ≤ MS → xw_mK_exchange_58 fu MC MS cy ad mi Φ m κ σ M (q 103) (q (kB b)) (nI t) (nI (nOut ((TLb rw b).take t) + j))
  | r, j, m + 1, κ, σ, P', q', C', M, hj, hm, hM, hS, hF, hκ => by
    show xv_mK_exchange_58 fu MC MS cy ad mi Φ (xw_mK_exchange_58 fu MC MS cy ad mi Φ m) κ σ M (q 103) (q (kB b)) (nI t) (nI (nOut ((TLb rw b).take t) + j))
    unfold xv_mK_exchange_58
    have hnn := bk_n hbk
    have h3000 := hbk.2.1
    have hmm := nOut_m2 (TLb rw b) (t := t + 1) (t' := (TLb rw b).length) (by omega)
    rw [List.take_length] at hmm
    have htk : nOut ((TLb rw b).take (t + 1)) = nOut ((TLb rw b).take t) + (txO rw b t).2.2.2.1.length := nOut_tk (TLb rw b) t ht
    obtain ⟨⟨b0, a1, a2, a3, a4⟩, hL⟩ := id hl
    obtain ⟨⟨-, -, -, -, x3, x4⟩, -⟩ := laH_x (TLb rw b) 0 0 0 hL t ht
    rw [Nat.zero_add, Nat.zero_add] at x3 x4
    have m103 := leF_at hF hM (hP 103 (by decide)) (by decide) hK
    have m120 := leF_at hF hM (hP 120 (by decide)) (by decide) b0
    have m123 := leF_at hF hM (hP 123 (by decide)) (by decide) a3
    refine m_gr m103 rfl (m_gr m120 rfl (m_bn (e' := nI (t + 1)) (nI_add t 1) (m_ai m123 (inb_nI (by omega) (by decide)) ?_)))
    rw [nI_clamp (n := t + 1) (by omega), x4]
    match r, hj, hm with
    | 0, hj, hm =>
      rw [show j = (txO rw b t).2.2.2.1.length from by omega] at hS
      exact m_t ((nI_leI (a := nOut ((TLb rw b).take (t + 1))) (b := nOut ((TLb rw b).take t) + j) (by omega) (by omega)).mpr (by omega)) (hΦ M P' q' C' hM hS hF)
    | r + 1, hj, hm =>
      have hb0 : 0 < b := by
        rcases Nat.eq_zero_or_pos b with z | z
        · rw [z, hr0] at ht
          exact absurd ht (Nat.not_lt_zero _)
        · exact z
      have hv : ∀ j, j < (txO rw b t).2.2.2.1.length → cVd rw nb (b, t, j) := fun j h => ⟨⟨hb, ht⟩, h⟩
      obtain ⟨sl, hS1⟩ := id hS
      obtain ⟨⟨p0, -, -, -, p4⟩, c0, -, -, -, c4⟩ := hS1.2.1.1 b hb
      obtain ⟨f', f1, f2⟩ := c4 hb0
      have k256 : 256 ≤ kB b := by unfold kB; omega
      have mb : mat M (q (kB b)) (blO q' par hgt tim bit b (bad b) (vl b) (mk b)) := by
        rw [← hF.2.2.1 (kB b) (by omega) (by omega)]
        exact g_at hM p0 c0
      have i0 : b ≠ 0 := by omega
      have hcl' : (nI (nOut ((TLb rw b).take t) + j)).toNatClampNeg = nOut ((TLb rw b).take t) + j := nI_clamp (n := nOut ((TLb rw b).take t) + j) (by omega)
      refine m_f (fun z => absurd ((nI_leI (a := nOut ((TLb rw b).take (t + 1))) (b := nOut ((TLb rw b).take t) + j) (by omega) (by omega)).mp z) (by omega)) (m_gr m103 rfl (m_gr (x := q' (kB b + 4)) mb (congrArg some (if_neg i0)) (m_arp (g_at hM (p4 hb0) f1) (inb_nI (by omega) (by omega)) (by rw [hcl']; exact f2 _ (by omega)) ?_)))
      obtain ⟨i1, i2, -, D, i4, i5⟩ := ptN_I hI hv (fun x => Iff.rfl) j (by omega) (by omega)
      have hl1 : (ptN rw b t s j).2.1.length ≤ s.2.1.length + 2 * j := by
        rw [i4, List.length_append]
        omega
      have g1 := ptN_s hI hv (j := j) (by omega) (by omega)
      have g2 := ptN_m hI hv hN2 r (j + 1) (by omega)
      have g3 := (leC_t g1 g2).2
      rw [g3] at hκ
      have ek : kB b + 8 + (nOut ((TLb rw b).take t) + j) = ck rw (b, t, j) := rfl
      rw [ek, ← hF.2.2.1 130 (by decide) (by decide)]
      refine m_ck (g_at hM (hS1.1.2.1 130 (by decide)) hS1.2.2.1) ⟨grS (ptN rw b t s j) (ptN rw b t s (j + 1)), 4 * grS (ptN rw b t s j) (ptN rw b t s (j + 1)), by omega, w_put fu _ _ cy ad mi (by omega) hM hS i1 hN (by omega) hO hp hr0 (hv j (by omega)) (by omega) (by show 0 + grS (ptN rw b t s j) (ptN rw b t s (j + 1)) ≤ _ ∧ 0 + 4 * grS (ptN rw b t s j) (ptN rw b t s (j + 1)) ≤ _; omega) (fun M2 P2 q2 C2 hM2 hS2 hF2 => m_bn (e' := nI (nOut ((TLb rw b).take t) + (j + 1))) (nI_add (nOut ((TLb rw b).take t) + j) 1) ?_)⟩
      exact w_ex58 fu MC MS cy ad mi hP hK hb hbk ht hl h134 hN hNf hO hp hr0 hI hN2 hΦ r (j + 1) m _ _ P2 q2 C2 M2 (by omega) (by omega) hM2 hS2 (leF_t hF hF2) (by omega)
set_option maxHeartbeats 2000000 in
theorem w_ex14 (fu MC MS : Nat) (cy : Nat → ClassId) (ad : Nat → Nat) (mi : Nat) {P : Nat → Prop} {q : Nat → Nat} {C : Nat → va_E} {nb : Nat} {par hgt tim : Nat → Nat} {bit : Nat → Int32} {bad : Nat → Bool} {rw : Nat → List Int32} {vl : Nat → Bool} {mk : Nat → Nat} (hP : ∀ k, k < 138 ∧ k ≠ 29 ∧ k ≠ 137 ∧ k ≠ 135 → P k) {rl tk ck' : Int32} {tp : Nat} (hK : C 103 = kpO q rl tp tk ck') {b t : Nat} (hb : b < nb) (hbk : bkS rw hgt tim b) (ht : t < (TLb rw b).length) {u3 u4 u5 u6 u7 u8 u9 u10 u11 : Nat → Int32} (hl : lyR C q cy (.ref (q (kB b + 1))) (rw b).length (TLb rw b) u3 u4 u5 u6 u7 u8 u9 u10 u11) {f : Nat → Option Nat} (h134 : C 134 = spA cy f) {N : Nat} (hN : 2 * N + 10 ≤ 60000) (hNf : 2 * N + 200 ≤ fu) (hO : oK rw nb) (hp : ∀ k, 0 < k → par k < k) (hr0 : TLb rw 0 = []) {s : Ld} (hI : ldI rw nb N s) {cs : List Cn} (hcn : cs.Nodup) (hcs : ∀ c, c ∈ cs → c ∈ s.1) (hcl : cs.length = (txO rw b t).2.1.length) (hf : ∀ k, k < (txO rw b t).2.1.length → f (nIn ((TLb rw b).take t) + k) = some (q (ck rw (cs.getD k e_C)))) (hN2 : s.2.1.length + cs.length ≤ N) {sF : Ld} (hsF : leC (fpK s cs cs.length) sF) {Φ : Mm → Prop} (hΦ : ∀ κ σ M' P' q' C', RG P' q' C' M' → ldM P' q' C' cy ad nb par hgt tim bit bad rw vl mk (fpK s cs cs.length) → leF P q C P' q' C' → κ + grS (fpK s cs cs.length) sF ≤ MC ∧ σ + 4 * grS (fpK s cs cs.length) sF ≤ MS → xv_mK_exchange_48 fu MC MS cy ad mi Φ κ σ M' (q 103) (q (kB b)) (nI t)) : ∀ r k m κ σ P' q' C' M, k + r = cs.length → r < m → RG P' q' C' M → ldM P' q' C' cy ad nb par hgt tim bit bad rw vl mk (fpK s cs k) → leF P q C P' q' C' → κ + grS (fpK s cs k) sF ≤ MC ∧ σ + 4 * grS (fpK s cs k) sF ≤ MS → xw_mK_exchange_14 fu MC MS cy ad mi Φ m κ σ M (q 103) (q (kB b)) (nI t) (nI (nIn ((TLb rw b).take t) + k))
  | r, k, m + 1, κ, σ, P', q', C', M, hk, hm, hM, hS, hF, hκ => by
    show xv_mK_exchange_14 fu MC MS cy ad mi Φ (xw_mK_exchange_14 fu MC MS cy ad mi Φ m) κ σ M (q 103) (q (kB b)) (nI t) (nI (nIn ((TLb rw b).take t) + k))
    unfold xv_mK_exchange_14
    have hnn := bk_n hbk
    have h3000 := hbk.2.1
    have hmm := nIn_m2 (TLb rw b) (t := t + 1) (t' := (TLb rw b).length) (by omega)
    rw [List.take_length] at hmm
    have htk : nIn ((TLb rw b).take (t + 1)) = nIn ((TLb rw b).take t) + (txO rw b t).2.1.length := nIn_tk (TLb rw b) t ht
    obtain ⟨⟨b0, a1, a2, a3, a4⟩, hL⟩ := id hl
    obtain ⟨⟨-, -, x3, x4, -, -⟩, -⟩ := laH_x (TLb rw b) 0 0 0 hL t ht
    rw [Nat.zero_add, Nat.zero_add] at x3 x4
    have m103 := leF_at hF hM (hP 103 (by decide)) (by decide) hK
    have m120 := leF_at hF hM (hP 120 (by decide)) (by decide) b0
    have m122 := leF_at hF hM (hP 122 (by decide)) (by decide) a2
    have m134 := leF_at hF hM (hP 134 (by decide)) (by decide) h134
    refine m_gr m103 rfl (m_gr m120 rfl (m_bn (e' := nI (t + 1)) (nI_add t 1) (m_ai m122 (inb_nI (by omega) (by decide)) ?_)))
    rw [nI_clamp (n := t + 1) (by omega), x4]
    match r, hk, hm with
    | 0, hk, hm =>
      have e : k = cs.length := by omega
      subst e
      exact m_t ((nI_leI (a := nIn ((TLb rw b).take (t + 1))) (b := nIn ((TLb rw b).take t) + cs.length) (by omega) (by omega)).mpr (by omega)) (hΦ κ σ M P' q' C' hM hS hF hκ)
    | r + 1, hk, hm =>
      have hc2 := hf k (by omega)
      have hcl' : (nI (nIn ((TLb rw b).take t) + k)).toNatClampNeg = nIn ((TLb rw b).take t) + k := nI_clamp (n := nIn ((TLb rw b).take t) + k) (by omega)
      obtain ⟨g1, hcv⟩ := fpK_s hI hcn hcs (k := k) (by omega) (by omega)
      have g2 := (leC_t (fpK_m hI hcn hcs hN2 r (k + 1) (by omega)) hsF).1
      have g3 := (leC_t g1 g2).2
      rw [g3] at hκ
      obtain ⟨i1, i2, -, i4⟩ := fpK_I hI hcn hcs k (by omega) (by omega)
      obtain ⟨sl, hS1⟩ := id hS
      have hcb := ck_b (rw := rw) (cs.getD k e_C)
      refine m_f (fun z => absurd ((nI_leI (a := nIn ((TLb rw b).take (t + 1))) (b := nIn ((TLb rw b).take t) + k) (by omega) (by omega)).mp z) (by omega)) (m_gr m103 rfl (m_gr m103 rfl (m_arp m134 (inb_nI (by omega) (by decide)) (by rw [hcl']; exact hc2) ?_)))
      rw [← hF.2.2.1 130 (by decide) (by decide), ← hF.2.2.1 (ck rw (cs.getD k e_C)) (by omega) (by omega)]
      refine m_ck (g_at hM (hS1.1.2.1 130 (by decide)) hS1.2.2.1) ⟨grS (fpK s cs k) (fpK s cs (k + 1)), 4 * grS (fpK s cs k) (fpK s cs (k + 1)), by omega, w_fp fu _ _ cy ad mi hM hS i1 hN hO hp hcv (by show 0 + grS (fpK s cs k) (fpK s cs (k + 1)) ≤ _ ∧ 0 + 4 * grS (fpK s cs k) (fpK s cs (k + 1)) ≤ _; omega) (fun M2 P2 q2 C2 hM2 hS2 hF2 => m_bn (e' := nI (nIn ((TLb rw b).take t) + (k + 1))) (nI_add (nIn ((TLb rw b).take t) + k) 1) ?_)⟩
      exact w_ex14 fu MC MS cy ad mi hP hK hb hbk ht hl h134 hN hNf hO hp hr0 hI hcn hcs hcl hf hN2 hsF hΦ r (k + 1) m _ _ P2 q2 C2 M2 (by omega) (by omega) hM2 hS2 (leF_t hF hF2) (by omega)
