-- the class's machine in the memory: one signature
set_option maxHeartbeats 2000000 in
theorem inP {P : Nat → Prop} (hP : ∀ k, k < 138 ∧ k ≠ 29 ∧ k ≠ 137 ∧ k ≠ 135 → P k) (ks : List Nat) (h : (ks.all fun k => decide (k < 138 ∧ k ≠ 29 ∧ k ≠ 137 ∧ k ≠ 135)) = true) : ∀ k, k ∈ ks → P k := fun k hk => hP k (of_decide_eq_true (List.all_eq_true.mp h k hk))
set_option maxHeartbeats 2000000 in
theorem w_ver {F : Type} [Lean.Grind.Field F] [DecidableEq F] {c : Int → F} (hc : cH pP c) {P : Nat → Prop} {q : Nat → Nat} {cy : Nat → ClassId} (hq : IJ P q) (hP : ∀ k, k < 138 ∧ k ≠ 29 ∧ k ≠ 137 ∧ k ≠ 135 → P k) (fu MC MS : Nat) (hfu : 20000 ≤ fu) (ad : Nat → Nat) (mi : Nat) {Φ : Int32 → Mm → Prop} (κ σ : Nat) (hκ : κ ≤ MC ∧ σ ≤ MS) {C : Nat → va_E} {M : Mm} (hM : RG P q C M) {h oh op i1 i2 fr : Int32} {ly : Value} {tx inn : Int32} {co : Value} {mit : Int32} {D m o tk : Nat → Int32} (H : maR c C q cy h oh op i1 i2 fr ly tx inn co mit D m o tk) (hD : ftB D) {a n b l : Nat} (ha : a + n ≤ 14928) (hb : b + l ≤ 14928) (hΦ : ∀ v M' C', RG P q C' M' → maR c C' q cy h oh op i1 i2 fr ly tx inn co mit D m o tk → fM C C' → tf (sgO c (beN D 0 32) (bl D a n) (bl D b l)) v → Φ v M') : xw_mSi_verify fu MC MS cy ad mi Φ κ σ M (q 0) (q 102) (0 : Int32) (nI a) (nI n) (nI b) (nI l) := by
  have H' := H
  obtain ⟨⟨a1, a2, a3, a4, a5⟩, -, -, R, L, B, v1, v2, v3⟩ := H
  have hcell : ∀ k, k < 103 ∧ k ≠ 29 → C k = sgC q cy 14928 R L (va_up B 102 D) k := fun k hk => by
    by_cases e : k = 102
    · subst e
      rw [a2]
      unfold sgC
      simp only [show ¬ (102 = 0) by decide, show ¬ (102 = 1) by decide, show ¬ (102 = 2) by decide, show ¬ (102 = 3) by decide, show ¬ (102 = 4) by decide, show ¬ (102 = 5) by decide, show ¬ (102 < 8) by decide, if_false, if_true, up_e]
    · rw [v1 k (by omega), sgC_c rfl (up_n e)]
  refine v_verify hc fu (by omega) MC MS cy ad mi q (fun i j hi hj e => hq i j (hP i (by omega)) (hP j (by omega)) e) 14928 R v2 κ σ (by decide) (va_up B 102 D) L M Φ (z := 0) (by decide) ha hb (fun i _ => ?_) hκ (fun k hk => by rw [← hcell k hk]; exact hM k (hP k (by omega))) (gI_c v3 (fun _ _ _ => rfl) (fun k hk => up_n (by omega))) (fun v L' B' M' w1 w2 w3 w4 w5 => ?_)
  · rw [up_e]
    have := fit_I (hD i)
    exact ⟨this.1, by omega⟩
  · rw [up_e] at w4 w5
    have hC' : RG P q (fun k => if k < 103 ∧ k ≠ 29 then sgC q cy 14928 R L' B' k else C k) M' := by
      refine RG_back (n := 103) hM hq (fun k => k) (fun k hk => hP k (by omega)) w1 w2 (fun k hk => ?_) (fun j _ hj => ?_)
      · show (if k < 103 ∧ k ≠ 29 then _ else _) = _
        rw [if_pos hk]
      · show (if j < 103 ∧ j ≠ 29 then _ else _) = _
        rw [if_neg (fun h => hj j h rfl)]
    have n1 : ∀ k, 103 ≤ k → (if k < 103 ∧ k ≠ 29 then sgC q cy 14928 R L' B' k else C k) = C k := fun k hk => if_neg (by omega)
    refine hΦ v M' _ hC' ?_ (fun k hk => n1 k (by omega)) ?_
    · obtain ⟨-, ⟨fl, ln, st, w, ck, s1, s2, s3, s4⟩, ⟨r0, r1, r2, r3, r4, t1, t2, t3, t4⟩, -⟩ := H'
      refine ⟨⟨(n1 110 (by decide)).trans a1, ?_, (n1 117 (by decide)).trans a3, (n1 118 (by decide)).trans a4, (n1 119 (by decide)).trans a5⟩, ⟨fl, ln, st, w, ck, (n1 106 (by decide)).trans s1, (n1 107 (by decide)).trans s2, (n1 108 (by decide)).trans s3, (n1 109 (by decide)).trans s4⟩, ⟨(n1 111 (by decide)).trans r0, r1, r2, r3, r4, (n1 112 (by decide)).trans t1, (n1 113 (by decide)).trans t2, (n1 114 (by decide)).trans t3, (n1 115 (by decide)).trans t4⟩, R, L', B', fun k hk => if_pos (by omega), v2, w3⟩
      show (if 102 < 103 ∧ 102 ≠ 29 then sgC q cy 14928 R L' B' 102 else C 102) = _
      rw [if_pos (by decide), ← w4]
      unfold sgC
      simp only [show ¬ (102 = 0) by decide, show ¬ (102 = 1) by decide, show ¬ (102 = 2) by decide, show ¬ (102 = 3) by decide, show ¬ (102 = 4) by decide, show ¬ (102 = 5) by decide, show ¬ (102 < 8) by decide, if_false, if_true]
    · have i := sgO_i c (beN D 0 32) D (a := a) (n := n) (b := b) (m := l)
      rcases w5 with ⟨rfl, w5⟩ | ⟨rfl, w5⟩
      · exact tf_1 (i.mp w5)
      · exact tf_0 (fun e => w5 (i.mpr e))
set_option maxHeartbeats 2000000 in
theorem fM_u {C C' : Nat → va_E} (e : ∀ k, k ≠ 110 → k ≠ 102 → k ≠ 117 → k ≠ 118 → k ≠ 119 → ¬ (106 ≤ k ∧ k ≤ 115) → C' k = C k) : fM C C' := fun k hk => e k (by omega) (by omega) (by omega) (by omega) (by omega) (by omega)
set_option maxHeartbeats 2000000 in
theorem w_Push {F : Type} [Lean.Grind.Field F] [DecidableEq F] {c : Int → F} {P : Nat → Prop} {q : Nat → Nat} {cy : Nat → ClassId} (hq : IJ P q) (hP : ∀ k, k < 138 ∧ k ≠ 29 ∧ k ≠ 137 ∧ k ≠ 135 → P k) (fu : Nat) {C : Nat → va_E} {M : Mm} (hM : RG P q C M) {n : Nat} (hn : n < 204) {oh op i1 i2 fr : Int32} {ly : Value} {tx inn : Int32} {co : Value} {mit : Int32} {D m o tk : Nat → Int32} (H : maR c C q cy (nI n) oh op i1 i2 fr ly tx inn co mit D m o tk) (hd : Int32) (K : Mm → Prop) (hK : ∀ M' C', RG P q C' M' → maR c C' q cy (nI (n + 1)) oh op i1 i2 fr ly tx inn co mit D (upd m n hd) o tk → fM C C' → K M') : ∃ (b1 : Value) (b2 : Value) (b3 : Value) (b4 : Value) (b5 : Value) (b6 : Value) (b7 : Value) (b8 : Value) (b9 : Value) (b10 : Nat) (c11 : Int32) (c12 : Int32) (c13 : Int32) (c14 : Int32) (c15 : Int32) (c16 : Int32) (c17 : Int32) (c18 : Int32) (c19 : Int32) (c20 : Nat → Int32), mal M [((q 110), .inr (6, [b1, b2, b3, b4, b5, .ref b10, b6, b7, .int c19, .int c11, .int c12, .int c13, .int c14, .int c15, b8, .int c16, .int c17, b9, .int c18])), (b10, .inl (cy 1, 204, .inl c20))] ∧ mnd (List.map (fun x : Nat × va_E => x.1) [((q 110), .inr (6, [b1, b2, b3, b4, b5, .ref b10, b6, b7, .int c19, .int c11, .int c12, .int c13, .int c14, .int c15, b8, .int c16, .int c17, b9, .int c18])), (b10, .inl (cy 1, 204, .inl c20))]) ∧ ∃ (c21 : Int32) (c22 : Nat → Int32), x_Ma_push fu c11 c12 c13 c14 c15 c16 c17 c18 hd c19 c20 = some (c21, c22) ∧ bnd (mov M [((q 110), .inr (6, [b1, b2, b3, b4, b5, .ref b10, b6, b7, .int c21, .int c11, .int c12, .int c13, .int c14, .int c15, b8, .int c16, .int c17, b9, .int c18])), (b10, .inl (cy 1, 204, .inl c22))]) fun M23 => K M23 := by
  have H' := H
  obtain ⟨⟨a1, a2, a3, a4, a5⟩, -⟩ := H
  obtain ⟨⟨e1, f2⟩, he, w1, w2⟩ := v_Ma_push fu oh op i1 i2 fr tx inn mit hd m hn
  replace w1 : e1 = nI (n + 1) := w1
  replace w2 : f2 = upd m n hd := w2
  subst w1 w2
  refine ⟨_, _, _, _, _, _, _, _, _, _, _, _, _, _, _, _, _, _, _, _, mal_c (g_at hM (hP 110 (by decide)) a1) (mal_c (g_at hM (hP 117 (by decide)) a3) (mal_n _)), ?_, _, _, he, ?_⟩
  · exact gnd hq [110, 117] (inP hP [110, 117] rfl) (by decide)
  · refine g_lf hM hq (va_up (va_up C 110 (maO q (nI (n + 1)) oh op i1 i2 fr ly tx inn co mit)) 117 (.inl (cy 1, 204, .inl (upd m n hd)))) [110, 117] (inP hP [110, 117] rfl) (fun k _ hk => ?_) (fun M' hM' => hK M' _ hM' ?_ ?_)
    · rw [up_n (fun e => hk (by rw [e]; decide)), up_n (fun e => hk (by rw [e]; decide))]
    · exact maR_c H' (fun k hk => by rw [up_n (by omega), up_n (by omega)]) (by rw [up_n (by decide), up_e]) (by rw [up_n (by decide), up_n (by decide)]; exact a2) up_e (by rw [up_n (by decide), up_n (by decide)]; exact a4) (by rw [up_n (by decide), up_n (by decide)]; exact a5)
    · exact fun k hk => by rw [up_n (by omega), up_n (by omega)]
set_option maxHeartbeats 2000000 in
theorem w_VT {F : Type} [Lean.Grind.Field F] [DecidableEq F] {c : Int → F} {P : Nat → Prop} {q : Nat → Nat} {cy : Nat → ClassId} (hq : IJ P q) (hP : ∀ k, k < 138 ∧ k ≠ 29 ∧ k ≠ 137 ∧ k ≠ 135 → P k) (fu : Nat) (hfu : 300 ≤ fu) {C : Nat → va_E} {M : Mm} (hM : RG P q C M) {oh op i1 i2 : Int32} {fr : Nat} {ly : Value} {tx inn : Int32} {co : Value} {mit : Int32} {D m o tk : Nat → Int32} {S : Stk} (hD : ftB D) (hfr : fr ≤ 14928) (hS : stH D fr m S) (hl : S.length ≤ 204) (H : maR c C q cy (nI S.length) oh op i1 i2 (nI fr) ly tx inn co mit D m o tk) (K : Int32 → Mm → Prop) (hK : ∀ v hh M' C', RG P q C' M' → maR c C' q cy hh oh op i1 i2 (nI fr) ly tx inn co mit D m o tk → fM C C' → ((vtS S = none ∧ v = 0) ∨ ∃ S', vtS S = some S' ∧ v = 1 ∧ hh = nI S'.length ∧ stH D fr m S' ∧ S'.length + 1 = S.length) → K v M') : ∃ (b24 : Value) (b25 : Value) (b26 : Value) (b27 : Value) (b28 : Value) (b29 : Value) (b30 : Value) (b31 : Value) (b32 : Nat) (b33 : Nat) (c34 : Int32) (c35 : Int32) (c36 : Int32) (c37 : Int32) (c38 : Int32) (c39 : Int32) (c40 : Int32) (c41 : Int32) (c42 : Nat → Int32) (c43 : Nat → Int32) (c44 : Int32), mal M [((q 110), .inr (6, [b24, b25, b26, .ref b32, b27, .ref b33, b28, b29, .int c44, .int c34, .int c35, .int c36, .int c37, .int c38, b30, .int c39, .int c40, b31, .int c41])), (b32, .inl (cy 0, 14928, .inl c42)), (b33, .inl (cy 1, 204, .inl c43))] ∧ mnd (List.map (fun x : Nat × va_E => x.1) [((q 110), .inr (6, [b24, b25, b26, .ref b32, b27, .ref b33, b28, b29, .int c44, .int c34, .int c35, .int c36, .int c37, .int c38, b30, .int c39, .int c40, b31, .int c41])), (b32, .inl (cy 0, 14928, .inl c42)), (b33, .inl (cy 1, 204, .inl c43))]) ∧ ∃ (v45 : Int32) (c46 : Int32), x_Ma_verifyTop fu c34 c35 c36 c37 c38 c39 c40 c41 c42 c43 c44 = some (v45, c46) ∧ bnd (mov M [((q 110), .inr (6, [b24, b25, b26, .ref b32, b27, .ref b33, b28, b29, .int c46, .int c34, .int c35, .int c36, .int c37, .int c38, b30, .int c39, .int c40, b31, .int c41])), (b32, .inl (cy 0, 14928, .inl c42)), (b33, .inl (cy 1, 204, .inl c43))]) fun M47 => K v45 M47 := by
  have H' := H
  obtain ⟨⟨a1, a2, a3, a4, a5⟩, -⟩ := H
  obtain ⟨⟨v, hh⟩, he, hw⟩ := v_Ma_verifyTop fu hfu oh op i1 i2 (nI fr) tx inn mit hD hfr hS hl
  refine ⟨_, _, _, _, _, _, _, _, _, _, _, _, _, _, _, _, _, _, _, _, _, mal_c (g_at hM (hP 110 (by decide)) a1) (mal_c (g_at hM (hP 102 (by decide)) a2) (mal_c (g_at hM (hP 117 (by decide)) a3) (mal_n _))), ?_, _, _, he, ?_⟩
  · exact gnd hq [110, 102, 117] (inP hP [110, 102, 117] rfl) (by decide)
  · refine g_lf hM hq (va_up (va_up (va_up C 110 (maO q hh oh op i1 i2 (nI fr) ly tx inn co mit)) 102 (.inl (cy 0, 14928, .inl D))) 117 (.inl (cy 1, 204, .inl m))) [110, 102, 117] (inP hP [110, 102, 117] rfl) (fun k _ hk => ?_) (fun M' hM' => hK v hh M' _ hM' ?_ ?_ hw)
    · rw [up_n (fun e => hk (by rw [e]; decide)), up_n (fun e => hk (by rw [e]; decide)), up_n (fun e => hk (by rw [e]; decide))]
    · exact maR_c H' (fun k hk => by rw [up_n (by omega), up_n (by omega), up_n (by omega)]) (by rw [up_n (by decide), up_n (by decide), up_e]) (by rw [up_n (by decide), up_e]) up_e (by rw [up_n (by decide), up_n (by decide), up_n (by decide)]; exact a4) (by rw [up_n (by decide), up_n (by decide), up_n (by decide)]; exact a5)
    · exact fun k hk => by rw [up_n (by omega), up_n (by omega), up_n (by omega)]
/-- what an op on signatures leaves -/
def sgX2 {F : Type} [Lean.Grind.Field F] [DecidableEq F] (c : Int → F) (P : Nat → Prop) (q : Nat → Nat) (cy : Nat → ClassId) (C : Nat → va_E) (W : Option (Stk × Stk × Nat)) (A : Stk) (fr : Nat) (i1 i2 : Int32) (ly : Value) (tx inn : Int32) (co : Value) (Z : List Int32) (D o tk : Nat → Int32) (Φ : Int32 → Mm → Prop) : Prop := ∀ v M' C' h' op' mit' D' m', RG P q C' M' → maR c C' q cy h' (nI A.length) op' i1 i2 (nI fr) ly tx inn co mit' D' m' o tk → fM C C' → ftB D' → (∀ j, 32 ≤ j → D' j = D j) → mtX mit' D' Z → ((W = none ∧ v = 0) ∨ ∃ S' n', W = some (S', A, n') ∧ v = 1 ∧ h' = nI S'.length ∧ op' = nI n' ∧ stH D' fr m' S' ∧ S'.length + A.length ≤ 202) → Φ v M'
set_option maxHeartbeats 2000000 in
theorem hN_e {D : Nat → Int32} {Z : List Int32} (h : ∀ j, j < 32 → D j = dbl (lf Z) Z.length j) : beN D 0 32 = hN Z := beN_c 32 fun j hj => by rw [Nat.zero_add, h j hj]
set_option maxHeartbeats 2000000 in
theorem smD_k {D D' : Nat → Int32} (h : smD D) (e : ∀ j, 32 ≤ j → D' j = D j) : smD D' := ⟨by rw [e 32 (by decide)]; exact h.1, fun k h1 h2 => by rw [e (32 + k) (by omega)]; exact h.2 k h1 h2⟩
set_option maxHeartbeats 2000000 in
theorem w_one {F : Type} [Lean.Grind.Field F] [DecidableEq F] {c : Int → F} (hc : cH pP c) {P : Nat → Prop} {q : Nat → Nat} {cy : Nat → ClassId} (hq : IJ P q) (hP : ∀ k, k < 138 ∧ k ≠ 29 ∧ k ≠ 137 ∧ k ≠ 135 → P k) (fu MC MS : Nat) (hfu : 20000 ≤ fu) (ad : Nat → Nat) (mi : Nat) {Φ : Int32 → Mm → Prop} (κ σ : Nat) (hκ : κ ≤ MC ∧ σ ≤ MS) {C : Nat → va_E} {M : Mm} (hM : RG P q C M) {S A : Stk} {ops fr : Nat} {i1 i2 : Int32} {ly : Value} {tx inn : Int32} {co : Value} {mit : Int32} {D m o tk : Nat → Int32} (hk : kM D fr m o S A) (H : maR c C q cy (nI S.length) (nI A.length) (nI ops) i1 i2 (nI fr) ly tx inn co mit D m o tk) {sg : List Int32 → List Int32 → Bool} {Z : List Int32} (hX : oX c P C q cy sg ly tx inn co Z) (hm : mtX mit D Z) {k : Nat} (hk2 : k = 172 ∨ k = 173) (hΦ : sgX2 c P q cy C (opS sg hsF k S A ops) A fr i1 i2 ly tx inn co Z D o tk Φ) : xw_mMa_checkOne fu MC MS cy ad mi Φ κ σ M (q 110) (nI k) := by
  have H' := H
  obtain ⟨⟨a1, a2, a3, a4, a5⟩, -⟩ := H
  have hD := hk.2.2.1
  have hsm := hk.2.2.2.1
  have hl := hk.2.2.2.2.1
  have hfr := hk.2.2.2.2.2
  have g110 := g_at hM (hP 110 (by decide)) a1
  have g117 := g_at hM (hP 117 (by decide)) a3
  unfold xw_mMa_checkOne
  refine m_gi g110 rfl ?_
  match S, hk, hl, H', g110, hΦ with
  | [], hk, hl, H', g110, hΦ => exact m_f (by decide) (hΦ 0 M C _ _ _ _ _ hM H' (fM_r C) hD (fun _ _ => rfl) hm (Or.inl ⟨by rcases hk2 with rfl | rfl <;> rfl, rfl⟩))
  | [x], hk, hl, H', g110, hΦ => exact m_f (show ¬ (2 : Int32) ≤ nI 1 by decide) (hΦ 0 M C _ _ _ _ _ hM H' (fM_r C) hD (fun _ _ => rfl) hm (Or.inl ⟨by rcases hk2 with rfl | rfl <;> rfl, rfl⟩))
  | y :: x :: S, hk, hl, H', g110, hΦ =>
    replace hl : S.length + 1 + 1 + A.length ≤ 200 := hl
    have e110 : C 110 = maO q (nI (S.length + 2)) (nI A.length) (nI ops) i1 i2 (nI fr) ly tx inn co mit := H'.1.1
    obtain ⟨p, b1, b2, b3, b4, b5⟩ := hk.1.1
    obtain ⟨r, c1, c2, c3, c4, c5⟩ := hk.1.2.1
    replace b1 : m (S.length + 1) = nI (256 * p + y.length) := b1
    refine m_t ((nI_leI (a := 2) (b := S.length + 2) (by omega) (by omega)).mpr (by omega)) (m_gr g110 rfl (m_gi g110 rfl (m_bn (e' := nI S.length) (nI_sb (a := S.length + 2) (b := 2) (by omega)) (m_ai g117 (inb_nI (by omega) (by decide)) (m_gr g110 rfl (m_gi g110 rfl (m_bn (e' := nI (S.length + 1)) (nI_sb (a := S.length + 2) (b := 1) (by omega)) (m_ai g117 (inb_nI (by omega) (by decide)) (m_gi g110 rfl (m_bn (e' := nI S.length) (nI_sb (a := S.length + 2) (b := 2) (by omega)) ?_))))))))))
    rw [nI_clamp (n := S.length) (by omega), nI_clamp (n := S.length + 1) (by omega), b1, c1]
    refine g_pt hM hq (hP 110 (by decide)) e110 (show 8 < 19 by decide) (fun M1 hM1 => ?_)
    obtain ⟨C1, hC1⟩ : ∃ C1, C1 = va_up C 110 (maO q (nI S.length) (nI A.length) (nI ops) i1 i2 (nI fr) ly tx inn co mit) := ⟨_, rfl⟩
    replace hM1 : RG P q C1 M1 := by rw [hC1]; exact hM1
    have n1 : ∀ k, k ≠ 110 → C1 k = C k := fun k hk => by rw [hC1, up_n hk]
    have H1 : maR c C1 q cy (nI S.length) (nI A.length) (nI ops) i1 i2 (nI fr) ly tx inn co mit D m o tk := maR_c H' (fun k hk => n1 k (by omega)) (by rw [hC1, up_e]) ((n1 102 (by decide)).trans a2) ((n1 117 (by decide)).trans a3) ((n1 118 (by decide)).trans a4) ((n1 119 (by decide)).trans a5)
    have F1 : fM C C1 := fun k hk => n1 k (by omega)
    -- the end: push, and verify
    have E : ∀ (b : Bool) (κ' σ' : Nat) (M2 : Mm) (C2 : Nat → va_E) (mit2 : Int32) (D2 : Nat → Int32) (y0 : Int32), RG P q C2 M2 → maR c C2 q cy (nI S.length) (nI A.length) (nI ops) i1 i2 (nI fr) ly tx inn co mit2 D2 m o tk → fM C C2 → ftB D2 → (∀ j, 32 ≤ j → D2 j = D j) → mtX mit2 D2 Z → sg y x = b → (y0 = if b then 8449 else 0) → xv_mMa_checkOne_102 fu MC MS cy ad mi Φ κ' σ' M2 (q 110) (nI k) y0 (q 110) := fun b κ' σ' M2 C2 mit2 D2 y0 hM2 H2 F2 hD2 hDD hm2 hb hy => by
      have hS2 : stH D2 fr m S := stH_k (Nat.le_refl _) (fun j h1 _ => hDD j h1) hk.1.2.2 (fun _ _ => rfl)
      unfold xv_mMa_checkOne_102
      refine w_Push hq hP fu hM2 (show S.length < 204 by omega) H2 y0 _ (fun M3 C3 hM3 H3 F3 => ?_)
      have hB : stH D2 fr (upd m S.length y0) (bT b :: S) := by
        refine stH_p hS2 ?_ rfl
        subst hy
        cases b with
        | true => exact hO_b (smD_k hsm hDD) hfr.1
        | false => exact hO_f fr
      rcases hk2 with rfl | rfl
      · refine m_t rfl ?_
        unfold xv_mMa_checkOne_119
        exact hΦ 1 M3 C3 _ _ _ _ _ hM3 H3 (fM_t F2 F3) hD2 hDD hm2 (Or.inr ⟨bT b :: S, ops, by show some (bT (sg y x) :: S, A, ops) = _; rw [hb], rfl, rfl, rfl, hB, by show S.length + 1 + A.length ≤ 202; omega⟩)
      · refine m_f (by decide) ?_
        refine w_VT hq hP fu (by omega) hM3 hD2 (by omega) hB (by show S.length + 1 ≤ 204; omega) H3 (fun v45 M47 => if v45 = 0 then (Φ (0 : Int32) M47) else (xv_mMa_checkOne_119 fu MC MS cy ad mi Φ κ' σ' M47)) (fun v hh M4 C4 hM4 H4 F4 hw => ?_)
        have W : opS sg hsF 173 (y :: x :: S) A ops = if b = true then some (S, A, ops) else none := by
          show (if sg y x = true then some (S, A, ops) else none) = _
          rw [hb]
        rw [vtS_b] at hw
        unfold xv_mMa_checkOne_119
        cases b with
        | true =>
          rcases hw with ⟨e, -⟩ | ⟨S', e, e1, e2, e3, -⟩
          · exact absurd e (by simp)
          · have e : S = S' := Option.some.inj e
            subst e
            subst e1
            refine m_f (by decide) (hΦ 1 M4 C4 _ _ _ _ _ hM4 H4 (fM_t (fM_t F2 F3) F4) hD2 hDD hm2 (Or.inr ⟨S, ops, W, rfl, e2, rfl, e3, by omega⟩))
        | false =>
          rcases hw with ⟨-, e⟩ | ⟨S', e, -⟩
          · subst e
            exact m_t rfl (hΦ 0 M4 C4 _ _ _ _ _ hM4 H4 (fM_t (fM_t F2 F3) F4) hD2 hDD hm2 (Or.inl ⟨W, rfl⟩))
          · exact absurd e (by simp)
    refine m_ck (g_at hM1 (hP 110 (by decide)) H1.1.1) ⟨0, 0, by omega, ?_⟩
    refine w_has hq hP fu 0 0 hfu ad mi 0 0 ⟨Nat.le_refl _, Nat.le_refl _⟩ hM1 H1 (oX_c hX F1) hm hD (fun o2 => ?_) (fun M2 C2 D2 hM2 H2 F2 d1 d2 d3 o3 => ?_)
    · refine m_t rfl ?_
      unfold xv_mMa_checkOne_86 xv_mMa_checkOne_87
      exact m_t rfl (E false _ _ M1 C1 mit D 0 hM1 H1 F1 hD (fun _ _ => rfl) hm (o2 y x) rfl)
    · have h110 := g_at hM2 (hP 110 (by decide)) H2.1.1
      have k1 : bl D2 p y.length = y := by
        rcases b5 with e | e
        · have : y = [] := List.eq_nil_of_length_eq_zero e
          subst this; rfl
        · refine Eq.trans (bl_c _ _ p fun i hi => d2 _ (by omega)) b3
      have k2 : bl D2 r x.length = x := by
        rcases c5 with e | e
        · have : x = [] := List.eq_nil_of_length_eq_zero e
          subst this; rfl
        · refine Eq.trans (bl_c _ _ r fun i hi => d2 _ (by omega)) c3
      obtain ⟨v1, q1, rfl⟩ := v_place fu (p := p) (l := y.length) (by omega) b2
      obtain ⟨v2, q2, rfl⟩ := v_length fu (p := p) (l := y.length) (by omega) b2
      obtain ⟨v3, q3, rfl⟩ := v_place fu (p := r) (l := x.length) (by omega) c2
      obtain ⟨v4, q4, rfl⟩ := v_length fu (p := r) (l := x.length) (by omega) c2
      have L0 : ∀ (M0 : Mm) (K : Mm → Prop), RG P q C2 M0 → (∀ M', RG P q C2 M' → K M') → bnd (mov M0 []) K := fun M0 K h0 hK => g_lf h0 hq C2 [] (fun k hk => absurd hk (by simp)) (fun _ _ _ => rfl) hK
      refine m_f (by decide) (m_gr h110 rfl (m_gr h110 rfl ⟨trivial, trivial, _, q1, L0 M2 _ hM2 (fun M3 hM3 => ⟨trivial, trivial, _, q2, L0 M3 _ hM3 (fun M4 hM4 => ⟨trivial, trivial, _, q3, L0 M4 _ hM4 (fun M5 hM5 => ⟨trivial, trivial, _, q4, L0 M5 _ hM5 (fun M6 hM6 => ?_)⟩)⟩)⟩)⟩))
      have hs0 : ∃ fs, C2 0 = .inr (10, fs) := by
        obtain ⟨-, -, -, R, L, B, v1, -⟩ := H2
        exact ⟨_, v1 0 (by decide)⟩
      obtain ⟨fs0, hs0⟩ := hs0
      refine m_ck (g_at hM6 (hP 0 (by decide)) hs0) ⟨0, 0, by omega, ?_⟩
      refine w_ver hc hq hP fu 0 0 hfu ad mi 0 0 ⟨Nat.le_refl _, Nat.le_refl _⟩ hM6 H2 d3 (a := p) (n := y.length) (b := r) (l := x.length) (by omega) (by omega) (fun v M7 C7 hM7 H7 F7 hv => ?_)
      rw [k1, k2, hN_e d1, ← o3] at hv
      have hm7 : mtX 1 D2 Z := Or.inr ⟨rfl, d1⟩
      have F27 : fM C C7 := fM_t (fM_t F1 F2) F7
      unfold xv_mMa_checkOne_86 xv_mMa_checkOne_87
      rcases hv with ⟨e1, rfl⟩ | ⟨e1, rfl⟩
      · exact m_f (by decide) (m_f (by decide) (E true _ _ M7 C7 1 D2 8449 hM7 H7 F27 d3 d2 hm7 e1 rfl))
      · exact m_t rfl (m_t rfl (E false _ _ M7 C7 1 D2 0 hM7 H7 F27 d3 d2 hm7 (by cases hsg : sg y x with
          | true => exact absurd hsg e1
          | false => rfl) rfl))
