-- the class's machine in the memory: many signatures
set_option maxHeartbeats 2000000 in
/-- what popLimited answers: a number, or -1 -/
theorem v_Ma_pop (fu : Nat) (hfu : 300 ≤ fu) (j2 j3 j4 j5 j6 j7 j8 j9 : Int32) {D m : Nat → Int32} {fr : Nat} (hfr : fr ≤ 14928) {S : Stk} (hS : stH D fr m S) (hl : S.length ≤ 204) {t : Nat} (ht : t ≤ 20) : ok (x_Ma_popLimited fu j2 j3 j4 j5 j6 j7 j8 j9 D m (nI t) (nI S.length)) (fun x => (x.1 = -1 ∧ ∀ n S', S = n :: S' → ¬ (isNu n = true ∧ 0 ≤ numL n ∧ numL n ≤ t)) ∨ ∃ n S' k, S = n :: S' ∧ isNu n = true ∧ numL n = (k : Nat) ∧ k ≤ t ∧ x.1 = nI k ∧ x.2 = nI S'.length) := by
  unfold x_Ma_popLimited xb_Ma_popLimited_65
  cases S with
  | nil => exact ok_t (by decide) (ok_some (Or.inl ⟨rfl, fun n S' e => absurd e (by simp)⟩))
  | cons n S =>
    replace hl : S.length + 1 ≤ 204 := hl
    have inj : ∀ n' S', n :: S = n' :: S' → n = n' := fun n' S' e => (List.cons.inj e).1
    refine ok_f (fun e => by have := (nI_ltI (a := S.length + 1) (b := 1) (by omega) (by omega)).mp e; omega) (ok_bn (e' := nI S.length) (nI_sb (a := S.length + 1) (b := 1) (by omega)) (ok_gd (inb_nI (by omega) (by decide)) ?_))
    rw [nI_clamp (n := S.length) (by omega)]
    refine ok_bnd (ok_bd1 (v_Ma_isNumber fu (nI (S.length + 1)) j2 j3 j4 j5 j6 j7 j8 j9 hfr hS.1) (fun v hv => ok_tf hv (fun q => ok_some (Or.inl ⟨rfl, fun n' S' e h => q ((inj n' S' e) ▸ h.1)⟩)) (fun qn => ?_)))
    refine ok_bn (e' := nI S.length) (nI_sb (a := S.length + 1) (b := 1) (by omega)) (ok_gd (inb_nI (by omega) (by decide)) ?_)
    rw [nI_clamp (n := S.length) (by omega)]
    have hb := numL_b (L := n) (of_decide_eq_true qn)
    refine ok_bnd (ok_bd1 (v_Ma_numberOf fu hfu (nI S.length) j2 j3 j4 j5 j6 j7 j8 j9 hfr hS.1 qn) (fun v6 h3 => ?_))
    by_cases c1 : numL n < 0
    · exact ok_t ((lg_lt' h3 z64).mpr c1) (ok_some (Or.inl ⟨rfl, fun n' S' e h => by have := inj n' S' e; subst this; have := h.2.1; omega⟩))
    refine ok_f (fun e => c1 ((lg_lt' h3 z64).mp e)) ?_
    rw [iL (show t < 2 ^ 31 by omega)]
    have i2 := lg_le' (b := (t : Int)) h3 (lN_I (show t < 2 ^ 63 by omega))
    by_cases c2 : numL n ≤ t
    · obtain ⟨k, hk⟩ : ∃ k : Nat, numL n = k := ⟨(numL n).toNat, by omega⟩
      have ev : v6 = lN k := Int64.toInt_inj.mp (by rw [h3, hk, lN_I (by omega)])
      subst ev
      refine ok_t (i2.mpr c2) (ok_bnd (ok_some (Or.inr ⟨n, S, k, rfl, qn, hk, by omega, iN_l, rfl⟩)))
    · exact ok_f (fun e => c2 (i2.mp e)) (ok_some (Or.inl ⟨rfl, fun n' S' e h => by have := inj n' S' e; subst this; exact c2 h.2.2⟩))
set_option maxHeartbeats 2000000 in
theorem w_Pop {F : Type} [Lean.Grind.Field F] [DecidableEq F] {c : Int → F} {P : Nat → Prop} {q : Nat → Nat} {cy : Nat → ClassId} (hq : IJ P q) (hP : ∀ k, k < 138 ∧ k ≠ 29 ∧ k ≠ 137 ∧ k ≠ 135 → P k) (fu : Nat) (hfu : 300 ≤ fu) {C : Nat → va_E} {M : Mm} (hM : RG P q C M) {oh op i1 i2 : Int32} {fr : Nat} {ly : Value} {tx inn : Int32} {co : Value} {mit : Int32} {D m o tk : Nat → Int32} {S : Stk} (hfr : fr ≤ 14928) (hS : stH D fr m S) (hl : S.length ≤ 204) {t : Nat} (ht : t ≤ 20) (H : maR c C q cy (nI S.length) oh op i1 i2 (nI fr) ly tx inn co mit D m o tk) (K : Int32 → Mm → Prop) (hK : ∀ v hh M' C', RG P q C' M' → maR c C' q cy hh oh op i1 i2 (nI fr) ly tx inn co mit D m o tk → fM C C' → ((v = -1 ∧ ∀ n S', S = n :: S' → ¬ (isNu n = true ∧ 0 ≤ numL n ∧ numL n ≤ t)) ∨ ∃ n S' k, S = n :: S' ∧ isNu n = true ∧ numL n = (k : Nat) ∧ k ≤ t ∧ v = nI k ∧ hh = nI S'.length) → K v M') : ∃ (b1 : Value) (b2 : Value) (b3 : Value) (b4 : Value) (b5 : Value) (b6 : Value) (b7 : Value) (b8 : Value) (b9 : Nat) (b10 : Nat) (c11 : Int32) (c12 : Int32) (c13 : Int32) (c14 : Int32) (c15 : Int32) (c16 : Int32) (c17 : Int32) (c18 : Int32) (c19 : Nat → Int32) (c20 : Nat → Int32) (c21 : Int32), mal M [((q 110), .inr (6, [b1, b2, b3, .ref b9, b4, .ref b10, b5, b6, .int c21, .int c11, .int c12, .int c13, .int c14, .int c15, b7, .int c16, .int c17, b8, .int c18])), (b9, .inl (cy 0, 14928, .inl c19)), (b10, .inl (cy 1, 204, .inl c20))] ∧ mnd (List.map (fun x : Nat × va_E => x.1) [((q 110), .inr (6, [b1, b2, b3, .ref b9, b4, .ref b10, b5, b6, .int c21, .int c11, .int c12, .int c13, .int c14, .int c15, b7, .int c16, .int c17, b8, .int c18])), (b9, .inl (cy 0, 14928, .inl c19)), (b10, .inl (cy 1, 204, .inl c20))]) ∧ ∃ (v22 : Int32) (c23 : Int32), x_Ma_popLimited fu c11 c12 c13 c14 c15 c16 c17 c18 c19 c20 (nI t) c21 = some (v22, c23) ∧ bnd (mov M [((q 110), .inr (6, [b1, b2, b3, .ref b9, b4, .ref b10, b5, b6, .int c23, .int c11, .int c12, .int c13, .int c14, .int c15, b7, .int c16, .int c17, b8, .int c18])), (b9, .inl (cy 0, 14928, .inl c19)), (b10, .inl (cy 1, 204, .inl c20))]) fun M24 => K v22 M24 := by
  have H' := H
  obtain ⟨⟨a1, a2, a3, a4, a5⟩, -⟩ := H
  obtain ⟨⟨v, hh⟩, he, hw⟩ := v_Ma_pop fu hfu oh op i1 i2 (nI fr) tx inn mit hfr hS hl ht
  refine ⟨_, _, _, _, _, _, _, _, _, _, _, _, _, _, _, _, _, _, _, _, _, mal_c (g_at hM (hP 110 (by decide)) a1) (mal_c (g_at hM (hP 102 (by decide)) a2) (mal_c (g_at hM (hP 117 (by decide)) a3) (mal_n _))), ?_, _, _, he, ?_⟩
  · exact gnd hq [110, 102, 117] (inP hP [110, 102, 117] rfl) (by decide)
  · refine g_lf hM hq (va_up (va_up (va_up C 110 (maO q hh oh op i1 i2 (nI fr) ly tx inn co mit)) 102 (.inl (cy 0, 14928, .inl D))) 117 (.inl (cy 1, 204, .inl m))) [110, 102, 117] (inP hP [110, 102, 117] rfl) (fun k _ hk => ?_) (fun M' hM' => hK v hh M' _ hM' ?_ ?_ hw)
    · rw [up_n (fun e => hk (by rw [e]; decide)), up_n (fun e => hk (by rw [e]; decide)), up_n (fun e => hk (by rw [e]; decide))]
    · exact maR_c H' (fun k hk => by rw [up_n (by omega), up_n (by omega), up_n (by omega)]) (by rw [up_n (by decide), up_n (by decide), up_e]) (by rw [up_n (by decide), up_e]) up_e (by rw [up_n (by decide), up_n (by decide), up_n (by decide)]; exact a4) (by rw [up_n (by decide), up_n (by decide), up_n (by decide)]; exact a5)
    · exact fun k hk => by rw [up_n (by omega), up_n (by omega), up_n (by omega)]
set_option maxHeartbeats 2000000 in
/-- the end: the truth is pushed, and may be verified -/
theorem w_mnE {F : Type} [Lean.Grind.Field F] [DecidableEq F] {c : Int → F} {P : Nat → Prop} {q : Nat → Nat} {cy : Nat → ClassId} (hq : IJ P q) (hP : ∀ k, k < 138 ∧ k ≠ 29 ∧ k ≠ 137 ∧ k ≠ 135 → P k) (fu MC MS : Nat) (hfu : 20000 ≤ fu) (ad : Nat → Nat) (mi : Nat) {Φ : Int32 → Mm → Prop} (κ σ : Nat) {C0 C : Nat → va_E} {M : Mm} (hM : RG P q C M) {S A : Stk} {n fr : Nat} {i1 i2 : Int32} {ly : Value} {tx inn : Int32} {co : Value} {mit : Int32} {D0 D m o tk : Nat → Int32} (hD : ftB D) (hsm : smD D) (hfr : 2064 ≤ fr ∧ fr + 32 ≤ 14928) (hS : stH D fr m S) (hl : S.length + A.length ≤ 200) (H : maR c C q cy (nI S.length) (nI A.length) (nI n) i1 i2 (nI fr) ly tx inn co mit D m o tk) (hF : fM C0 C) {Z : List Int32} (hDD : ∀ j, 32 ≤ j → D j = D0 j) (hm : mtX mit D Z) {k : Nat} (hk2 : k = 174 ∨ k = 175) {b : Bool} {y0 : Int32} (hy : y0 = if b then 8449 else 0) {W : Option (Stk × Stk × Nat)} (hW : W = if k = 174 then some (bT b :: S, A, n) else if b = true then some (S, A, n) else none) (hΦ : sgX2 c P q cy C0 W A fr i1 i2 ly tx inn co Z D0 o tk Φ) : xv_mMa_checkMany_209 fu MC MS cy ad mi Φ κ σ M (q 110) (nI k) y0 (q 110) := by
  unfold xv_mMa_checkMany_209
  refine w_Push hq hP fu hM (show S.length < 204 by omega) H y0 _ (fun M3 C3 hM3 H3 F3 => ?_)
  have hB : stH D fr (upd m S.length y0) (bT b :: S) := by
    refine stH_p hS ?_ rfl
    subst hy
    cases b with
    | true => exact hO_b hsm hfr.1
    | false => exact hO_f fr
  rcases hk2 with rfl | rfl
  · rw [if_pos rfl] at hW
    refine m_t rfl ?_
    unfold xv_mMa_checkMany_226
    exact hΦ 1 M3 C3 _ _ _ _ _ hM3 H3 (fM_t hF F3) hD hDD hm (Or.inr ⟨bT b :: S, n, hW, rfl, rfl, rfl, hB, by show S.length + 1 + A.length ≤ 202; omega⟩)
  · rw [if_neg (by decide)] at hW
    refine m_f (by decide) ?_
    refine w_VT hq hP fu (by omega) hM3 hD (by omega) hB (by show S.length + 1 ≤ 204; omega) H3 (fun v45 M47 => if v45 = 0 then (Φ (0 : Int32) M47) else (xv_mMa_checkMany_226 fu MC MS cy ad mi Φ κ σ M47)) (fun v hh M4 C4 hM4 H4 F4 hw => ?_)
    rw [vtS_b] at hw
    unfold xv_mMa_checkMany_226
    cases b with
    | true =>
      rcases hw with ⟨e, -⟩ | ⟨S', e, e1, e2, e3, -⟩
      · exact absurd e (by simp)
      · have e : S = S' := Option.some.inj e
        subst e
        subst e1
        refine m_f (by decide) (hΦ 1 M4 C4 _ _ _ _ _ hM4 H4 (fM_t (fM_t hF F3) F4) hD hDD hm (Or.inr ⟨S, n, hW, rfl, e2, rfl, e3, by omega⟩))
    | false =>
      rcases hw with ⟨-, e⟩ | ⟨S', e, -⟩
      · subst e
        exact m_t rfl (hΦ 0 M4 C4 _ _ _ _ _ hM4 H4 (fM_t (fM_t hF F3) F4) hD hDD hm (Or.inl ⟨hW, rfl⟩))
      · exact absurd e (by simp)
set_option maxHeartbeats 2000000 in
theorem w_mn110 {F : Type} [Lean.Grind.Field F] [DecidableEq F] {c : Int → F} (hc : cH pP c) {P : Nat → Prop} {q : Nat → Nat} {cy : Nat → ClassId} (hq : IJ P q) (hP : ∀ k, k < 138 ∧ k ≠ 29 ∧ k ≠ 137 ∧ k ≠ 135 → P k) (fu MC MS : Nat) (hfu : 20000 ≤ fu) (ad : Nat → Nat) (mi : Nat) {Φ : Int32 → Mm → Prop} {C0 : Nat → va_E} {S A : Stk} {n fr : Nat} {i1 i2 : Int32} {ly : Value} {tx inn : Int32} {co : Value} {D0 m o tk : Nat → Int32} (hsm : smD D0) (hfr : 2064 ≤ fr ∧ fr + 32 ≤ 14928) (hS : stH D0 fr m S) (hl : S.length + A.length ≤ 200) {sg : List Int32 → List Int32 → Bool} {Z : List Int32} (hX : oX c P C0 q cy sg ly tx inn co Z) {k : Nat} (hk2 : k = 174 ∨ k = 175) {kb sb : Nat} (hkb : 1 ≤ kb ∧ kb ≤ 204) (hsb : 1 ≤ sb ∧ sb ≤ 204) {W : Option (Stk × Stk × Nat)} (hΦ : sgX2 c P q cy C0 W A fr i1 i2 ly tx inn co Z D0 o tk Φ) : ∀ ks ss N C M mit D κ σ, κ ≤ MC ∧ σ ≤ MS → RG P q C M → maR c C q cy (nI S.length) (nI A.length) (nI n) i1 i2 (nI fr) ly tx inn co mit D m o tk → fM C0 C → ftB D → (∀ j, 32 ≤ j → D j = D0 j) → mtX mit D Z → stH D0 fr (fun j => m (kb + j)) ks → stH D0 fr (fun j => m (sb + j)) ss → kb + ks.length ≤ 204 → sb + ss.length ≤ 204 → ks.length ≤ 20 → ss.length ≤ 20 → ks.length < N → (W = if k = 174 then some (bT (cml sg ks ss) :: S, A, n) else if cml sg ks ss = true then some (S, A, n) else none) → xw_mMa_checkMany_110 fu MC MS cy ad mi Φ N κ σ M (q 110) (nI k) (nI ks.length) (nI (kb + ks.length - 1)) (nI ss.length) (nI (sb + ss.length - 1)) := by
  intro ks
  induction ks with
  | nil =>
    intro ss N C M mit D κ σ hκ hM H hF hD hDD hm hks hss l1 l2 l3 l4 hN hW
    obtain ⟨N, rfl⟩ : ∃ m, N = m + 1 := ⟨N - 1, by omega⟩
    show xv_mMa_checkMany_110 fu MC MS cy ad mi Φ (xw_mMa_checkMany_110 fu MC MS cy ad mi Φ N) κ σ M (q 110) (nI k) (nI 0) (nI (kb + 0 - 1)) (nI ss.length) (nI (sb + ss.length - 1))
    have hS' : stH D fr m S := stH_k (Nat.le_refl _) (fun j h1 _ => hDD j h1) hS (fun _ _ => rfl)
    unfold xv_mMa_checkMany_110 xv_mMa_checkMany_196
    cases ss with
    | nil => exact m_t (by decide) (m_t rfl (w_mnE hq hP fu MC MS hfu ad mi κ σ hM hD (smD_k hsm hDD) hfr hS' hl H hF hDD hm hk2 (b := true) rfl hW hΦ))
    | cons s ss =>
      replace l4 : ss.length + 1 ≤ 20 := l4
      refine m_f (fun e => by have := (nI_leI (a := ss.length + 1) (b := 0) (by omega) (by omega)).mp e; omega) (m_t ((nI_ltI (a := 0) (b := ss.length + 1) (by omega) (by omega)).mpr (by omega)) (m_f (fun e => by have := (nI_eq (a := ss.length + 1) (b := 0) (by omega) (by omega)).mp e; omega) ?_))
      exact w_mnE hq hP fu MC MS hfu ad mi κ σ hM hD (smD_k hsm hDD) hfr hS' hl H hF hDD hm hk2 (b := false) rfl hW hΦ
  | cons y ks ih =>
    intro ss N C M mit D κ σ hκ hM H hF hD hDD hm hks hss l1 l2 l3 l4 hN hW
    obtain ⟨N, rfl⟩ : ∃ m, N = m + 1 := ⟨N - 1, by omega⟩
    replace l1 : kb + (ks.length + 1) ≤ 204 := l1
    replace l3 : ks.length + 1 ≤ 20 := l3
    replace hN : ks.length + 1 < N + 1 := hN
    show xv_mMa_checkMany_110 fu MC MS cy ad mi Φ (xw_mMa_checkMany_110 fu MC MS cy ad mi Φ N) κ σ M (q 110) (nI k) (nI (ks.length + 1)) (nI (kb + (ks.length + 1) - 1)) (nI ss.length) (nI (sb + ss.length - 1))
    have hS' : stH D fr m S := stH_k (Nat.le_refl _) (fun j h1 _ => hDD j h1) hS (fun _ _ => rfl)
    unfold xv_mMa_checkMany_110
    cases ss with
    | nil =>
      unfold xv_mMa_checkMany_196
      exact m_t (by decide) (m_t rfl (w_mnE hq hP fu MC MS hfu ad mi κ σ hM hD (smD_k hsm hDD) hfr hS' hl H hF hDD hm hk2 (b := true) rfl hW hΦ))
    | cons x ss =>
      replace l2 : sb + (ss.length + 1) ≤ 204 := l2
      replace l4 : ss.length + 1 ≤ 20 := l4
      show (if nI (ss.length + 1) ≤ 0 then _ else _)
      refine m_f (fun e => by have := (nI_leI (a := ss.length + 1) (b := 0) (by omega) (by omega)).mp e; omega) ?_
      by_cases c0 : ks.length + 1 < ss.length + 1
      · refine m_t ((nI_ltI (a := ks.length + 1) (b := ss.length + 1) (by omega) (by omega)).mpr c0) ?_
        unfold xv_mMa_checkMany_196
        rw [cml_len sg (y :: ks) (x :: ss) c0] at hW
        exact m_f (fun e => by have := (nI_eq (a := ss.length + 1) (b := 0) (by omega) (by omega)).mp e; omega) (w_mnE hq hP fu MC MS hfu ad mi κ σ hM hD (smD_k hsm hDD) hfr hS' hl H hF hDD hm hk2 (b := false) rfl hW hΦ)
      refine m_f (fun e => c0 ((nI_ltI (a := ks.length + 1) (b := ss.length + 1) (by omega) (by omega)).mp e)) ?_
      obtain ⟨p, b1, b2, b3, b4, b5⟩ := hks.1
      obtain ⟨r, c1, c2, c3, c4, c5⟩ := hss.1
      replace b1 : m (kb + ks.length) = nI (256 * p + y.length) := b1
      replace c1 : m (sb + ss.length) = nI (256 * r + x.length) := c1
      have ec : cml sg (y :: ks) (x :: ss) = if sg y x = true then cml sg ks ss else cml sg ks (x :: ss) := rfl
      -- the key is left behind
      have G : ∀ ss' C2 M2 mit2 D2 κ σ, κ ≤ MC ∧ σ ≤ MS → RG P q C2 M2 → maR c C2 q cy (nI S.length) (nI A.length) (nI n) i1 i2 (nI fr) ly tx inn co mit2 D2 m o tk → fM C0 C2 → ftB D2 → (∀ j, 32 ≤ j → D2 j = D0 j) → mtX mit2 D2 Z → stH D0 fr (fun j => m (sb + j)) ss' → sb + ss'.length ≤ 204 → ss'.length ≤ 20 → cml sg (y :: ks) (x :: ss) = cml sg ks ss' → xv_mMa_checkMany_187 fu MC MS cy ad mi Φ (xw_mMa_checkMany_110 fu MC MS cy ad mi Φ N) κ σ M2 (q 110) (nI k) (nI (ks.length + 1)) (nI (kb + (ks.length + 1) - 1)) (nI ss'.length) (nI (sb + ss'.length - 1)) := fun ss' C2 M2 mit2 D2 κ σ hκ hM2 H2 F2 hD2 hDD2 hm2 hss' g1 g2 g3 => by
        unfold xv_mMa_checkMany_187
        rw [g3] at hW
        refine m_bn (e' := nI (kb + ks.length - 1)) ?_ (m_bn (e' := nI ks.length) (m1_e (a := ks.length + 1) (by omega)) ?_)
        · rw [m1_e (by omega)]; rfl
        · exact ih ss' N C2 M2 mit2 D2 κ σ hκ hM2 H2 F2 hD2 hDD2 hm2 hks.2 hss' (by omega) g1 (by omega) g2 (by omega) hW
      refine m_ck (g_at hM (hP 110 (by decide)) H.1.1) ⟨0, 0, by omega, ?_⟩
      refine w_has hq hP fu 0 0 hfu ad mi 0 0 ⟨Nat.le_refl _, Nat.le_refl _⟩ hM H (oX_c hX hF) hm hD (fun o2 => ?_) (fun M2 C2 D2 hM2 H2 F2 d1 d2 d3 o3 => ?_)
      · refine m_t rfl ?_
        rw [o2 y x] at ec
        exact G (x :: ss) C M mit D _ _ (by omega) hM H hF hD hDD hm hss l2 l4 ec
      · have h110 := g_at hM2 (hP 110 (by decide)) H2.1.1
        have dd : ∀ j, 32 ≤ j → D2 j = D0 j := fun j hj => (d2 j hj).trans (hDD j hj)
        have k1 : bl D2 p y.length = y := by
          rcases b5 with e | e
          · have : y = [] := List.eq_nil_of_length_eq_zero e
            subst this; rfl
          · refine Eq.trans (bl_c _ _ p fun i hi => dd _ (by omega)) b3
        have k2 : bl D2 r x.length = x := by
          rcases c5 with e | e
          · have : x = [] := List.eq_nil_of_length_eq_zero e
            subst this; rfl
          · refine Eq.trans (bl_c _ _ r fun i hi => dd _ (by omega)) c3
        obtain ⟨v1, q1, rfl⟩ := v_place fu (p := p) (l := y.length) (by omega) b2
        obtain ⟨v2, q2, rfl⟩ := v_length fu (p := p) (l := y.length) (by omega) b2
        obtain ⟨v3, q3, rfl⟩ := v_place fu (p := r) (l := x.length) (by omega) c2
        obtain ⟨v4, q4, rfl⟩ := v_length fu (p := r) (l := x.length) (by omega) c2
        have L0 : ∀ (M0 : Mm) (K : Mm → Prop), RG P q C2 M0 → (∀ M', RG P q C2 M' → K M') → bnd (mov M0 []) K := fun M0 K h0 hK => g_lf h0 hq C2 [] (fun k hk => absurd hk (by simp)) (fun _ _ _ => rfl) hK
        have aK : ∀ (M0 : Mm) (K : Int32 → Prop), RG P q C2 M0 → K (nI (256 * p + y.length)) → mgr M0 (q 110) 6 5 (fun r1 => oss r1 fun q1 => mai M0 q1 (cy 1) (nI (kb + (ks.length + 1) - 1)) K) := fun M0 K h0 hK => by
          refine m_gr (g_at h0 (hP 110 (by decide)) H2.1.1) rfl (m_ai (g_at h0 (hP 117 (by decide)) H2.1.2.2.1) (inb_nI (by omega) (by decide)) ?_)
          rw [nI_clamp (n := kb + (ks.length + 1) - 1) (by omega), show kb + (ks.length + 1) - 1 = kb + ks.length from by omega, b1]
          exact hK
        have aS : ∀ (M0 : Mm) (K : Int32 → Prop), RG P q C2 M0 → K (nI (256 * r + x.length)) → mgr M0 (q 110) 6 5 (fun r1 => oss r1 fun q1 => mai M0 q1 (cy 1) (nI (sb + (ss.length + 1) - 1)) K) := fun M0 K h0 hK => by
          refine m_gr (g_at h0 (hP 110 (by decide)) H2.1.1) rfl (m_ai (g_at h0 (hP 117 (by decide)) H2.1.2.2.1) (inb_nI (by omega) (by decide)) ?_)
          rw [nI_clamp (n := sb + (ss.length + 1) - 1) (by omega), show sb + (ss.length + 1) - 1 = sb + ss.length from by omega, c1]
          exact hK
        refine m_f (by decide) (m_gr h110 rfl (m_gr h110 rfl (aK M2 _ hM2 ⟨trivial, trivial, _, q1, L0 M2 _ hM2 (fun M3 hM3 => aK M3 _ hM3 ⟨trivial, trivial, _, q2, L0 M3 _ hM3 (fun M4 hM4 => aS M4 _ hM4 ⟨trivial, trivial, _, q3, L0 M4 _ hM4 (fun M5 hM5 => aS M5 _ hM5 ⟨trivial, trivial, _, q4, L0 M5 _ hM5 (fun M6 hM6 => ?_)⟩)⟩)⟩)⟩)))
        have hs0 : ∃ fs, C2 0 = .inr (10, fs) := by
          obtain ⟨-, -, -, R, L, B, v1, -⟩ := H2
          exact ⟨_, v1 0 (by decide)⟩
        obtain ⟨fs0, hs0⟩ := hs0
        refine m_ck (g_at hM6 (hP 0 (by decide)) hs0) ⟨0, 0, by omega, ?_⟩
        refine w_ver hc hq hP fu 0 0 hfu ad mi 0 0 ⟨Nat.le_refl _, Nat.le_refl _⟩ hM6 H2 d3 (a := p) (n := y.length) (b := r) (l := x.length) (by omega) (by omega) (fun v M7 C7 hM7 H7 F7 hv => ?_)
        rw [k1, k2, hN_e d1, ← o3] at hv
        have hm7 : mtX 1 D2 Z := Or.inr ⟨rfl, d1⟩
        have F27 : fM C0 C7 := fM_t (fM_t hF F2) F7
        rcases hv with ⟨e1, rfl⟩ | ⟨e1, rfl⟩
        · rw [if_pos e1] at ec
          refine m_f (by decide) (m_bn (e' := nI (sb + ss.length - 1)) ?_ (m_bn (e' := nI ss.length) (m1_e (a := ss.length + 1) (by omega)) ?_))
          · show nI (sb + (ss.length + 1) - 1) + (-1 : Int32) = _
            rw [m1_e (by omega)]; rfl
          · exact G ss C7 M7 1 D2 _ _ (by omega) hM7 H7 F27 d3 dd hm7 hss.2 (by omega) (by omega) ec
        · rw [if_neg e1] at ec
          exact m_t rfl (G (x :: ss) C7 M7 1 D2 _ _ (by omega) hM7 H7 F27 d3 dd hm7 hss l2 l4 ec)
