-- the class's machine: fetch, compare, arithmetic
set_option maxHeartbeats 1000000 in
theorem stH_of {D : Nat → Int32} {fr : Nat} {m : Nat → Int32} : ∀ {S : Stk}, (∀ i, i < S.length → hO D fr (m (S.length - 1 - i)) (S.getD i [])) → stH D fr m S
  | [], _ => trivial
  | x :: S, h => by
    replace h : ∀ i, i < S.length + 1 → hO D fr (m (S.length + 1 - 1 - i)) ((x :: S).getD i []) := h
    refine ⟨h 0 (by omega), stH_of fun i hi => ?_⟩
    have := h (i + 1) (by omega)
    rw [show S.length + 1 - 1 - (i + 1) = S.length - 1 - i from by omega] at this
    exact this
set_option maxHeartbeats 1000000 in
theorem eD_lt (S : Stk) {k i : Nat} (h : i < k) : (S.eraseIdx k).getD i [] = S.getD i [] := by
  show ((S.eraseIdx k)[i]?).getD [] = (S[i]?).getD []
  rw [List.getElem?_eraseIdx, if_pos h]
set_option maxHeartbeats 1000000 in
theorem eD_ge (S : Stk) {k i : Nat} (h : k ≤ i) : (S.eraseIdx k).getD i [] = S.getD (i + 1) [] := by
  show ((S.eraseIdx k)[i]?).getD [] = (S[i + 1]?).getD []
  rw [List.getElem?_eraseIdx, if_neg (by omega)]
set_option maxHeartbeats 1000000 in
theorem c_fetch (fu : Nat) (hfu : 1600 ≤ fu) (j2 j3 j4 j5 j6 j7 j8 j9 : Int32) (sg : List Int32 → List Int32 → Bool) {D m o : Nat → Int32} {fr : Nat} {S A : Stk} (ops : Nat) {n : List Int32} (h : kM D fr m o (n :: S) A) (h1 : 1 ≤ S.length) {k0 : Nat} (hk0 : k0 = 121 ∨ k0 = 122) : ok (x_Ma_fetch fu j2 j3 j4 j5 j6 j7 j8 j9 D (nI k0) (nI (S.length + 1)) m) (fun x => maQ (opS sg hsF k0 (n :: S) A ops) A ops fr D x.1 x.2.1 (nI fr) D x.2.2) := by
  have hD := h.2.2.1
  have hl : S.length + 1 + A.length ≤ 200 := h.2.2.2.2.1
  have hfr := h.2.2.2.2.2
  rw [opS_pk sg hsF hk0]
  show ok _ (fun x : Int32 × Int32 × (Nat → Int32) => maQ (pkS k0 n S A ops) A ops fr D x.1 x.2.1 (nI fr) D x.2.2)
  unfold x_Ma_fetch xb_Ma_fetch_113
  have no : ∀ (hh : Int32), ¬ (1 ≤ S.length ∧ isNu n = true ∧ 0 ≤ numL n ∧ numL n < (S.length : Int)) → maQ (pkS k0 n S A ops) A ops fr D 0 hh (nI fr) D m := fun hh e => maQ_0 hD (by unfold pkS; rw [if_neg e])
  refine ok_bn (e' := nI S.length) (nI_sb (a := S.length + 1) (b := 1) (by omega)) (ok_gd (inb_nI (by omega) (by decide)) ?_)
  rw [nI_clamp (n := S.length) (by omega)]
  refine ok_bnd (ok_bd1 (v_Ma_isNumber fu (nI S.length) j2 j3 j4 j5 j6 j7 j8 j9 (by omega) h.1.1) (fun v hv => ok_tf hv (fun q => ok_some (no _ fun e => q e.2.1)) (fun qn => ?_)))
  have hb := numL_b (L := n) (of_decide_eq_true qn)
  refine ok_bd1 (v_Ma_numberOf fu (by omega) (nI S.length) j2 j3 j4 j5 j6 j7 j8 j9 (by omega) h.1.1 qn) (fun v hv => ?_)
  by_cases c1 : numL n < 0
  · exact ok_t ((lg_lt' hv z64).mpr c1) (ok_some (no _ fun e => by have := e.2.2.1; omega))
  refine ok_f (fun e => c1 ((lg_lt' hv z64).mp e)) (ok_bd1 (v_Ma_numberOf fu (by omega) (nI S.length) j2 j3 j4 j5 j6 j7 j8 j9 (by omega) h.1.1 qn) (fun v' hv' => ?_))
  rw [iL (show S.length < 2 ^ 31 by omega)]
  have c2 := lg_lt' (b := (S.length : Int)) hv' (lN_I (show S.length < 2 ^ 63 by omega))
  by_cases c3 : numL n < (S.length : Int)
  · obtain ⟨k, hk⟩ : ∃ k : Nat, numL n = k := ⟨(numL n).toNat, by omega⟩
    refine ok_t (c2.mpr c3) (ok_bn (e' := nI (S.length - 1)) (nI_sb (b := 1) h1) (ok_bd1 (v_Ma_numberOf fu (by omega) (nI S.length) j2 j3 j4 j5 j6 j7 j8 j9 (by omega) h.1.1 qn) (fun w hw => ?_)))
    have ew : w = lN k := Int64.toInt_inj.mp (by rw [hw, hk, lN_I (by omega)])
    subst ew
    rw [iN_l]
    refine ok_bn (e' := nI (S.length - 1 - k)) (nI_sb (by omega)) (ok_gd (inb_nI (by omega) (by decide)) ?_)
    rw [nI_clamp (n := S.length - 1 - k) (by omega)]
    have hg := stH_g (i := k) (by omega) h.1.2
    have eW : pkS k0 n S A ops = some (S.getD k [] :: (if k0 = 121 then S else S.eraseIdx k), A, ops) := by
      unfold pkS
      rw [if_pos ⟨h1, qn, by omega, c3⟩, hk]
      rfl
    rw [eW]
    refine ok_bnd ?_
    rcases hk0 with rfl | rfl
    · refine ok_f (by decide) (ok_bd2 (v_Ma_push fu j2 j3 j4 j5 j6 j7 j8 j9 _ m (show S.length < 204 by omega)) (fun e1 f2 w => ok_some ?_))
      obtain ⟨w1, w2⟩ := w
      replace w2 : f2 = upd m S.length (m (S.length - 1 - k)) := w2
      subst w2
      exact maQ_1 (S' := S.getD k [] :: S) hD rfl w1 (stH_p h.1.2 hg rfl) (by show S.length + 1 + A.length ≤ 202; omega)
    · refine ok_t rfl (ok_bn (e' := nI (S.length - 1)) (nI_sb (b := 1) h1) (ok_bn (nI_1 _) (ok_bn (e' := nI k) ?_ (ok_gd (cpk_nI (by omega) (by omega) (by decide) (by decide)) ?_))))
      · rw [nI_sb (by omega)]; congr 1; omega
      rw [nI_clamp (n := S.length - 1 - k + 1) (by omega), nI_clamp (n := k) (by omega)]
      refine ok_bnd (ok_bd2 (v_Ma_push fu j2 j3 j4 j5 j6 j7 j8 j9 _ _ (show S.length - 1 < 204 by omega)) (fun e1 f2 w => ok_some ?_))
      obtain ⟨w1, w2⟩ := w
      replace w1 : e1 = nI (S.length - 1 + 1) := w1
      replace w2 : f2 = upd (va_cpy m m (S.length - 1 - k + 1) (S.length - 1 - k) k) (S.length - 1) (m (S.length - 1 - k)) := w2
      subst w2
      have el : (S.eraseIdx k).length = S.length - 1 := by rw [List.length_eraseIdx, if_pos (by omega)]
      have sE : stH D fr (va_cpy m m (S.length - 1 - k + 1) (S.length - 1 - k) k) (S.eraseIdx k) := stH_of fun i hi => by
        rw [el] at hi
        rw [el]
        by_cases c : i < k
        · rw [eD_lt S c, pk_cpy_in (by omega) (by omega), show S.length - 1 - k + 1 + (S.length - 1 - 1 - i - (S.length - 1 - k)) = S.length - 1 - i from by omega]
          exact stH_g (by omega) h.1.2
        · rw [eD_ge S (by omega), pk_cpy_out (by omega), show S.length - 1 - 1 - i = S.length - 1 - (i + 1) from by omega]
          exact stH_g (by omega) h.1.2
      refine maQ_1 (S' := S.getD k [] :: S.eraseIdx k) hD rfl (by rw [w1, List.length_cons, el]) (stH_p sE hg el.symm) (by rw [List.length_cons, el]; omega)
  · exact ok_f (fun e => c3 (c2.mp e)) (ok_some (no _ fun e => c3 e.2.2.2))
set_option maxHeartbeats 1000000 in
theorem v_Ma_arrange (fu : Nat) (hfu : 1600 ≤ fu) (j2 j3 j4 j5 j7 j8 j9 : Int32) (sg : List Int32 → List Int32 → Bool) {D m o : Nat → Int32} {fr : Nat} {S A : Stk} (ops : Nat) (h : kM D fr m o S A) {k : Nat} (hk : k = 98 ∨ k = 101 ∨ k = 102 ∨ k = 106 ∨ (109 ≤ k ∧ k ≤ 130)) : ok (x_Ma_arrange fu j2 j3 j4 j5 j7 j8 j9 (nI k) (nI S.length) (nI fr) D m) (maQ5 (opS sg hsF k S A ops) A ops fr D) := by
  have hD := h.2.2.1
  have hl := h.2.2.2.2.1
  have F : ∀ k, (k = 121 ∨ k = 122) → ok (x_Ma_arrange fu j2 j3 j4 j5 j7 j8 j9 (nI k) (nI S.length) (nI fr) D m) (maQ5 (opS sg hsF k S A ops) A ops fr D) := fun k hk => by
    have e2 : x_Ma_neededBy fu (nI k) = some (nI 2) := by rcases hk with rfl | rfl <;> rfl
    refine l_arr fu j2 j3 j4 j5 j7 j8 j9 (nd := 2) (by omega) (by decide) e2 _ (fun q => ok_some ?_) (fun q => ?_)
    · refine maQ_0 hD ?_
      rw [opS_pk sg hsF hk]
      match S, q with
      | [], q => rfl
      | [x], q =>
        show pkS k x [] A ops = none
        unfold pkS
        rw [if_neg (fun e => absurd e.1 (by decide))]
      | x :: y :: S, q => exact absurd (show S.length + 1 + 1 < 2 from q) (by omega)
    · cases S with
      | nil => exact absurd q (by decide)
      | cons n S =>
        replace q : 2 ≤ S.length + 1 := q
        have G : ok (xb_Ma_arrange_264 fu j2 j3 j4 j5 j7 j8 j9 (nI k) (nI (S.length + 1)) (nI fr) D m) (maQ5 (opS sg hsF k (n :: S) A ops) A ops fr D) := by
          unfold xb_Ma_arrange_264
          refine ok_bd3 (c_fetch fu hfu j2 j3 j4 j5 (nI fr) j7 j8 j9 sg ops h (by omega) hk) (fun v e f w => ?_)
          replace w : maQ (opS sg hsF k (n :: S) A ops) A ops fr D v e (nI fr) D f := w
          refine ok_gd ?_ (ok_some w)
          rcases w.2.2 with ⟨-, e⟩ | ⟨-, -, -, e, -⟩ <;> subst e <;> decide
        unfold xb_Ma_arrange_59
        rcases hk with rfl | rfl
        · iterate 12 refine ok_f (by decide) ?_
          exact ok_t rfl G
        · iterate 13 refine ok_f (by decide) ?_
          exact ok_t rfl G
  have N : ∀ k, (k = 98 ∨ k = 101 ∨ k = 102 ∨ k = 106) → ok (x_Ma_arrange fu j2 j3 j4 j5 j7 j8 j9 (nI k) (nI S.length) (nI fr) D m) (maQ5 (opS sg hsF k S A ops) A ops fr D) := fun k hk => by
    have e1 : x_Ma_neededBy fu (nI k) = some (nI 1) := by rcases hk with rfl | rfl | rfl | rfl <;> rfl
    have e0 : opS sg hsF k S A ops = none := by rcases hk with rfl | rfl | rfl | rfl <;> rfl
    refine l_arr fu j2 j3 j4 j5 j7 j8 j9 (nd := 1) (by omega) (by decide) e1 _ (fun q => ok_some (maQ_0 hD e0)) (fun q => ?_)
    unfold xb_Ma_arrange_59
    have hne : ∀ j, 109 ≤ j → j ≤ 130 → ¬ nI k = nI j := fun j h1 h2 e => by
      have := (nI_eq (by omega) (by omega)).mp e
      omega
    refine ok_f (hne 109 (by decide) (by decide)) (ok_f (hne 110 (by decide) (by decide)) (ok_f (hne 111 (by decide) (by decide)) (ok_f (hne 112 (by decide) (by decide)) (ok_f (hne 113 (by decide) (by decide)) (ok_f (hne 114 (by decide) (by decide)) (ok_f (hne 115 (by decide) (by decide)) (ok_f (hne 116 (by decide) (by decide)) (ok_f (hne 117 (by decide) (by decide)) (ok_f (hne 118 (by decide) (by decide)) (ok_f (hne 119 (by decide) (by decide)) (ok_f (hne 120 (by decide) (by decide)) (ok_f (hne 121 (by decide) (by decide)) (ok_f (hne 122 (by decide) (by decide)) (ok_f (hne 123 (by decide) (by decide)) (ok_f (hne 124 (by decide) (by decide)) (ok_f (hne 125 (by decide) (by decide)) (ok_f (hne 126 (by decide) (by decide)) (ok_f (hne 127 (by decide) (by decide)) (ok_f (hne 128 (by decide) (by decide)) (ok_f (hne 129 (by decide) (by decide)) (ok_f (hne 130 (by decide) (by decide)) (ok_some (maQ_0 hD e0)))))))))))))))))))))))
  rcases hk with e | e | e | e | e
  · exact N k (Or.inl e)
  · exact N k (Or.inr (Or.inl e))
  · exact N k (Or.inr (Or.inr (Or.inl e)))
  · exact N k (Or.inr (Or.inr (Or.inr e)))
  · have cs : ∃ i, i < 22 ∧ k = 109 + i := ⟨k - 109, by omega, by omega⟩
    obtain ⟨i, hi, rfl⟩ := cs
    match i, hi with
    | 0, _ => exact c_ar109 fu hfu j2 j3 j4 j5 j7 j8 j9 sg ops h
    | 1, _ => exact c_ar110 fu hfu j2 j3 j4 j5 j7 j8 j9 sg ops h
    | 2, _ => exact c_ar111 fu hfu j2 j3 j4 j5 j7 j8 j9 sg ops h
    | 3, _ => exact c_ar112 fu hfu j2 j3 j4 j5 j7 j8 j9 sg ops h
    | 4, _ => exact c_ar113 fu hfu j2 j3 j4 j5 j7 j8 j9 sg ops h
    | 5, _ => exact c_ar114 fu hfu j2 j3 j4 j5 j7 j8 j9 sg ops h
    | 6, _ => exact c_ar115 fu hfu j2 j3 j4 j5 j7 j8 j9 sg ops h
    | 7, _ => exact c_ar116 fu hfu j2 j3 j4 j5 j7 j8 j9 sg ops h
    | 8, _ => exact c_ar117 fu hfu j2 j3 j4 j5 j7 j8 j9 sg ops h
    | 9, _ => exact c_ar118 fu hfu j2 j3 j4 j5 j7 j8 j9 sg ops h
    | 10, _ => exact c_ar119 fu hfu j2 j3 j4 j5 j7 j8 j9 sg ops h
    | 11, _ => exact c_ar120 fu hfu j2 j3 j4 j5 j7 j8 j9 sg ops h
    | 12, _ => exact F 121 (by decide)
    | 13, _ => exact F 122 (by decide)
    | 14, _ => exact c_ar123 fu hfu j2 j3 j4 j5 j7 j8 j9 sg ops h
    | 15, _ => exact c_ar124 fu hfu j2 j3 j4 j5 j7 j8 j9 sg ops h
    | 16, _ => exact c_ar125 fu hfu j2 j3 j4 j5 j7 j8 j9 sg ops h
    | 17, _ => exact c_ar126 fu hfu j2 j3 j4 j5 j7 j8 j9 sg ops h
    | 18, _ => exact c_ar127 fu hfu j2 j3 j4 j5 j7 j8 j9 sg ops h
    | 19, _ => exact c_ar128 fu hfu j2 j3 j4 j5 j7 j8 j9 sg ops h
    | 20, _ => exact c_ar129 fu hfu j2 j3 j4 j5 j7 j8 j9 sg ops h
    | 21, _ => exact c_ar130 fu hfu j2 j3 j4 j5 j7 j8 j9 sg ops h
    | i + 22, hi => exact absurd hi (by omega)
