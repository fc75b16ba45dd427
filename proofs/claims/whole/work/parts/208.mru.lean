-- the class's machine in the memory: the run
set_option maxHeartbeats 2000000 in
theorem w_r177 {F : Type} [Lean.Grind.Field F] [DecidableEq F] {c : Int → F} (hc : cH pP c) {P : Nat → Prop} {q : Nat → Nat} {cy : Nat → ClassId} (hq : IJ P q) (hP : ∀ k, k < 138 ∧ k ≠ 29 ∧ k ≠ 137 ∧ k ≠ 135 → P k) (fu MC MS : Nat) (hfu : 20000 ≤ fu) (ad : Nat → Nat) (mi : Nat) {C0 : Nat → va_E} {f0 : Nat} {ly : Value} {tx inn : Int32} {co : Value} {Z : List Int32} {Ds : Nat → Int32} (hf0 : f0 + 32 * 201 ≤ 14928) {sg : List Int32 → List Int32 → Bool} (hX : oX c P C0 q cy sg ly tx inn co Z) {p e f κ σ : Nat} (hκ : κ ≤ MC ∧ σ ≤ MS) {k36 : Nat → Nat → Mm → Nat → Int32 → Int32 → Prop} {Φ : Int32 → Mm → Prop} (hK : rkH c P q cy C0 f0 ly tx inn co Z Ds sg p e f κ σ k36 Φ) {p' : Nat} (hp : p < p') (hp' : p' ≤ e) {C : Nat → va_E} {M : Mm} {S A : Stk} {ops : Nat} {I : List Bool} {fr : Nat} {mit : Int32} {D m o tk : Nat → Int32} (h : lpI c P q cy C0 f0 ly tx inn co Z Ds C M S A ops I fr mit D m o tk) (hl : S.length + A.length ≤ 200) {k : Nat} (hk : 76 < k ∧ k < 256) (hk96 : 96 < k → fr + 32 ≤ f0 + 32 * ops ∧ I.length + 1 ≤ ops) (hΦ : rnX c P q cy C0 f0 ly tx inn co Z Ds ((qS sg k (bl Ds p' (e - p')) S A ops I).bind (rnK sg f)) Φ) : xv_mMa_run_177 fu MC MS cy ad mi Φ k36 κ σ M (q 110) (nI p') (nI e) (nI k) (1 : Int32) := by
  have h' := h
  obtain ⟨hM, H, b1, b2, b3, b4, ⟨b5, b51, b52, b53⟩, ⟨b6, b61⟩, b7, b8, b9⟩ := h
  have Dn : ¬ (k = 99 ∨ k = 100 ∨ k = 103 ∨ k = 104) → xv_mMa_run_216 fu MC MS cy ad mi Φ k36 κ σ M (q 110) (nI p') (nI e) (nI k) (1 : Int32) := fun hn => by
    have ee : qS sg k (bl Ds p' (e - p')) S A ops I = oS sg k (bl Ds p' (e - p')) S A ops I := if_neg hn
    rw [ee] at hΦ
    exact w_r216 hc hq hP fu MC MS hfu ad mi hf0 hX hκ hK hp hp' h' hl hk hn (fun z => (hk96 z).1) hΦ
  unfold xv_mMa_run_177
  by_cases c1 : k < 99
  · exact m_t ((nI_ltI (b := 99) (by omega) (by omega)).mpr c1) (Dn (by omega))
  refine m_f (fun e => c1 ((nI_ltI (b := 99) (by omega) (by omega)).mp e)) ?_
  by_cases c2 : 104 < k
  · exact m_t ((nI_ltI (a := 104) (by omega) (by omega)).mpr c2) (Dn (by omega))
  refine m_f (fun e => c2 ((nI_ltI (a := 104) (by omega) (by omega)).mp e)) ?_
  refine m_op (k := 101) hk.2 (by decide) rfl (fun e => Dn (by omega)) (fun c3 => ?_)
  refine m_op (k := 102) hk.2 (by decide) rfl (fun e => Dn (by omega)) (fun c4 => ?_)
  have hkb : k = 99 ∨ k = 100 ∨ k = 103 ∨ k = 104 := by omega
  have ee : qS sg k (bl Ds p' (e - p')) S A ops I = (brS k S I).map fun w => (bl Ds p' (e - p'), w.1, A, ops, w.2) := if_pos hkb
  rw [ee] at hΦ
  have hI := (hk96 (by omega)).2
  refine w_Bran hq hP fu hM H (v_Ma_branch fu (by omega) _ _ _ _ _ _ b3 (by omega) b1 (by omega) b6 (by omega) hkb) (fun v23 M28 => xv_mMa_run_281 fu MC MS cy ad mi Φ k36 κ σ M28 (q 110) (nI p') (nI e) v23) (fun v h1 i1 i2 tk1 M1 C1 q1 q2 q3 q4 => ?_)
  rcases q4 with ⟨e1, e2⟩ | ⟨S', I', e1, e2, e3, e4, e5, e6, e7⟩
  · replace e2 : v = 0 := e2
    subst e2
    exact w_r281z fu MC MS ad mi (rnX_0 hΦ (by rw [e1]; rfl) q1 q2 (fM_t b8 q3) b3 b4 b7 b9)
  · replace e2 : v = 1 := e2
    replace e3 : h1 = nI S'.length := e3
    replace e4 : i1 = nI I'.length := e4
    replace e5 : i2 = nI (offN I') := e5
    subst e2 e3 e4 e5
    have hlen := brS_len e1
    rw [e1] at hΦ
    exact w_r281 hq hP fu MC MS ad mi hK hp hp' ⟨q1, q2, e7, b2, b3, b4, ⟨b5, b51, b52, by omega⟩, ⟨e6, by omega⟩, b7, fM_t b8 q3, b9⟩ hΦ
set_option maxHeartbeats 2000000 in
theorem w_r101 {F : Type} [Lean.Grind.Field F] [DecidableEq F] {c : Int → F} {P : Nat → Prop} {q : Nat → Nat} {cy : Nat → ClassId} (hq : IJ P q) (hP : ∀ k, k < 138 ∧ k ≠ 29 ∧ k ≠ 137 ∧ k ≠ 135 → P k) (fu MC MS : Nat) (ad : Nat → Nat) (mi : Nat) {C0 : Nat → va_E} {f0 : Nat} {ly : Value} {tx inn : Int32} {co : Value} {Z : List Int32} {Ds : Nat → Int32} {sg : List Int32 → List Int32 → Bool} {p e f κ σ : Nat} (he : e ≤ 2064) {k36 : Nat → Nat → Mm → Nat → Int32 → Int32 → Prop} {Φ : Int32 → Mm → Prop} (hK : rkH c P q cy C0 f0 ly tx inn co Z Ds sg p e f κ σ k36 Φ) {p' : Nat} (hp0 : 64 ≤ p') (hp : p < p') (hp' : p' ≤ e) {C : Nat → va_E} {M : Mm} {S A : Stk} {ops : Nat} {I : List Bool} {fr : Nat} {mit : Int32} {D m o tk : Nat → Int32} (h : lpI c P q cy C0 f0 ly tx inn co Z Ds C M S A ops I fr mit D m o tk) (hl : S.length + A.length ≤ 200) {l : Nat} (hl2 : l < 256) (hΦ : rnX c P q cy C0 f0 ly tx inn co Z Ds ((puS l (bl Ds p' (e - p')) S A ops I).bind (rnK sg f)) Φ) : xv_mMa_run_101 fu MC MS cy ad mi Φ k36 κ σ M (q 110) (nI p') (nI e) (nI l) := by
  have h' := h
  obtain ⟨hM, H, b1, b2, b3, b4, ⟨b5, b51, b52, b53⟩, ⟨b6, b61⟩, b7, b8, b9⟩ := h
  have g := g_at hM (hP 110 (by decide)) H.1.1
  have hof := offN_le I
  unfold xv_mMa_run_101 xv_mMa_run_114 xv_mMa_run_139
  rw [nI_sb hp']
  by_cases cc : l ≤ e - p'
  · have eu : puS l (bl Ds p' (e - p')) S A ops I = some (bl Ds (p' + l) (e - (p' + l)), if offB I then S else bl Ds p' l :: S, A, ops, I) := by
      unfold puS
      rw [bl_len, if_pos cc, bl_drop, bl_take _ _ _ _ cc, Nat.sub_sub]
    rw [eu] at hΦ
    replace hΦ : rnX c P q cy C0 f0 ly tx inn co Z Ds (rnK sg f (bl Ds (p' + l) (e - (p' + l)), if offB I then S else bl Ds p' l :: S, A, ops, I)) Φ := hΦ
    refine m_f (fun e => by have := (nI_ltI (by omega) (by omega)).mp e; omega) (m_f (by decide) (m_gi g rfl ?_))
    by_cases d : offN I = 0
    · have d' := (offN_0 I).mp d
      rw [d', show (if (false : Bool) = true then S else bl Ds p' l :: S) = bl Ds p' l :: S from rfl] at hΦ
      refine m_t (by rw [d]; rfl) (m_b (m_bn (h_or (p := p') (l := l) (by omega) (by omega)) ?_))
      refine w_Push hq hP fu hM (show S.length < 204 by omega) H (nI (256 * p' + l)) (fun M26 => bnd (nI p' + nI l) fun v1 => xv_mMa_run_281 fu MC MS cy ad mi Φ k36 κ σ M26 (q 110) v1 (nI e) (1 : Int32)) (fun M1 C1 q1 q2 q3 => m_bn (nI_add _ _) ?_)
      refine w_r281 (S := bl Ds p' l :: S) hq hP fu MC MS ad mi hK (by omega) (by omega) ⟨q1, q2, stH_p b1 ⟨p', by rw [bl_len], by rw [bl_len]; omega, ?_, by rw [bl_len]; omega, Or.inr (by omega)⟩ rfl, b2, b3, b4, ⟨b5, b51, b52, by show S.length + 1 + A.length ≤ 202; omega⟩, ⟨b6, b61⟩, b7, fM_t b8 q3, b9⟩ hΦ
      rw [bl_len]
      exact bl_c _ _ _ fun i hi => b9 _ (by omega) (by omega)
    · have d' : offB I = true := by
        cases ee : offB I with
        | true => rfl
        | false => exact absurd ((offN_0 I).mpr ee) d
      rw [d', show (if (true : Bool) = true then S else bl Ds p' l :: S) = S from rfl] at hΦ
      exact m_f (fun e => d ((nI_eq (b := 0) (by omega) (by omega)).mp e)) (m_bn (nI_add _ _) (w_r281 hq hP fu MC MS ad mi hK (by omega) (by omega) h' hΦ))
  · have eu : puS l (bl Ds p' (e - p')) S A ops I = none := by
      unfold puS
      rw [bl_len, if_neg cc]
    refine m_t ((nI_ltI (by omega) (by omega)).mpr (by omega)) (m_t rfl (m_b (w_r281z fu MC MS ad mi (rnX_0 hΦ (by rw [eu]; rfl) hM H b8 b3 b4 b7 b9))))
set_option maxHeartbeats 2000000 in
theorem nI_mm (e : Nat) : nI e - nI (e + 1) = (-1 : Int32) := by
  rw [← nI_1 e, Int32.sub_eq_add_neg, Int32.neg_add, Int32.sub_eq_add_neg, ← Int32.add_assoc, Int32.add_right_neg, Int32.zero_add]
set_option maxHeartbeats 2000000 in
theorem w_r36 {F : Type} [Lean.Grind.Field F] [DecidableEq F] {c : Int → F} (hc : cH pP c) {P : Nat → Prop} {q : Nat → Nat} {cy : Nat → ClassId} (hq : IJ P q) (hP : ∀ k, k < 138 ∧ k ≠ 29 ∧ k ≠ 137 ∧ k ≠ 135 → P k) (fu MC MS : Nat) (hfu : 20000 ≤ fu) (ad : Nat → Nat) (mi : Nat) {C0 : Nat → va_E} {f0 : Nat} {ly : Value} {tx inn : Int32} {co : Value} {Z : List Int32} {Ds : Nat → Int32} (hf0 : f0 + 32 * 201 ≤ 14928) (hf064 : 2064 ≤ f0) {sg : List Int32 → List Int32 → Bool} (hX : oX c P C0 q cy sg ly tx inn co Z) {e κ σ : Nat} (he : e ≤ 2064) (hκ : κ ≤ MC ∧ σ ≤ MS) {Φ : Int32 → Mm → Prop} : ∀ n f p C M S A ops I fr mit D m o tk, 64 ≤ p → p ≤ e → e - p < n → e - p < f → lpI c P q cy C0 f0 ly tx inn co Z Ds C M S A ops I fr mit D m o tk → S.length + A.length ≤ 200 → rnX c P q cy C0 f0 ly tx inn co Z Ds (rnS sg hsF f (bl Ds p (e - p)) S A ops I) Φ → xw_mMa_run_36 fu MC MS cy ad mi Φ n κ σ M (q 110) (nI p) (nI e) := by
  intro n
  induction n with
  | zero => intro f p C M S A ops I fr mit D m o tk h1 h2 h3; omega
  | succ n ih =>
    intro f p C M S A ops I fr mit D m o tk h64 hp hn hf h hl hΦ
    obtain ⟨f, rfl⟩ : ∃ m, f = m + 1 := ⟨f - 1, by omega⟩
    have h' := h
    obtain ⟨hM, H, b1, b2, b3, b4, ⟨b5, b51, b52, b53⟩, ⟨b6, b61⟩, b7, b8, b9⟩ := h
    have g := g_at hM (hP 110 (by decide)) H.1.1
    show xv_mMa_run_36 fu MC MS cy ad mi Φ (xw_mMa_run_36 fu MC MS cy ad mi Φ n) κ σ M (q 110) (nI p) (nI e)
    unfold xv_mMa_run_36
    by_cases cc : e ≤ p
    · refine m_t ((nI_leI (by omega) (by omega)).mpr cc) (m_gi g rfl ?_)
      rw [show e - p = 0 from by omega, bl_0, rnS_nil] at hΦ
      cases I with
      | nil => exact m_t rfl (hΦ 1 M C _ _ _ _ _ _ _ D m o tk hM H b8 b3 b4 b7 b9 (Or.inr ⟨S, fr, if_pos rfl, rfl, rfl, rfl, b5, by omega, b1, by omega⟩))
      | cons b I =>
        replace b61 : I.length + 1 ≤ ops := b61
        exact m_f (fun e => by have := (nI_eq (a := I.length + 1) (b := 0) (by omega) (by omega)).mp e; omega) (rnX_0 hΦ (if_neg (by simp)) hM H b8 b3 b4 b7 b9)
    refine m_f (fun e => cc ((nI_leI (by omega) (by omega)).mp e)) (m_gr g rfl (m_ai (g_at hM (hP 102 (by decide)) H.1.2.1) (inb_nI (by omega) (by decide)) ?_))
    rw [nI_clamp (n := p) (by omega), b9 p h64 (by omega), and255]
    refine m_b (m_bn (nI_1 p) ?_)
    obtain ⟨k, hk⟩ : ∃ k, e - p = k + 1 := ⟨e - p - 1, by omega⟩
    have ek : k = e - (p + 1) := by omega
    rw [hk, bl_s, rnS_cons, ek] at hΦ
    have ho := By_lt (Ds p)
    have hK : rkH c P q cy C0 f0 ly tx inn co Z Ds sg p e f κ σ (xw_mMa_run_36 fu MC MS cy ad mi Φ n) Φ := fun p' C M S A ops I fr mit D m o tk q1 q2 q3 q4 q5 => ih f p' C M S A ops I fr mit D m o tk (by omega) q2 (by omega) (by omega) q3 q4 q5
    by_cases c1 : 76 < By (Ds p)
    · rw [stS_gt c1] at hΦ
      refine m_t ((nI_ltI (a := 76) (by omega) (by omega)).mpr c1) ?_
      by_cases c2 : By (Ds p) ≤ 96
      · rw [if_neg (show ¬ 96 < By (Ds p) by omega), if_neg (show ¬ 201 < ops by omega)] at hΦ
        exact m_t ((nI_leI (b := 96) (by omega) (by omega)).mpr c2) (w_r177 hc hq hP fu MC MS hfu ad mi hf0 hX hκ hK (by omega) (by omega) h' hl ⟨c1, ho⟩ (fun z => absurd z (by omega)) hΦ)
      · rw [if_pos (show 96 < By (Ds p) by omega)] at hΦ
        refine m_f (fun e => c2 ((nI_leI (b := 96) (by omega) (by omega)).mp e)) (m_gi g rfl (m_bn (nI_1 ops) ?_))
        refine g_pt hM hq (hP 110 (by decide)) H.1.1 (show 10 < 19 by decide) (fun M1 hM1 => ?_)
        have H1 : maR c (va_up C 110 (maO q (nI S.length) (nI A.length) (nI (ops + 1)) (nI I.length) (nI (offN I)) (nI fr) ly tx inn co mit)) q cy (nI S.length) (nI A.length) (nI (ops + 1)) (nI I.length) (nI (offN I)) (nI fr) ly tx inn co mit D m o tk := maR_c H (fun k hk => up_n (by omega)) up_e ((up_n (by decide)).trans H.1.2.1) ((up_n (by decide)).trans H.1.2.2.1) ((up_n (by decide)).trans H.1.2.2.2.1) ((up_n (by decide)).trans H.1.2.2.2.2)
        have F1 : fM C0 (va_up C 110 (maO q (nI S.length) (nI A.length) (nI (ops + 1)) (nI I.length) (nI (offN I)) (nI fr) ly tx inn co mit)) := fM_t b8 (fun k hk => up_n (by omega))
        by_cases c3 : 201 < ops + 1
        · rw [if_pos c3] at hΦ
          exact m_f (fun e => by have := (nI_leI (b := 201) (by omega) (by omega)).mp e; omega) (w_r281z fu MC MS ad mi (rnX_0 hΦ rfl hM1 H1 F1 b3 b4 b7 b9))
        · rw [if_neg c3] at hΦ
          exact m_t ((nI_leI (b := 201) (by omega) (by omega)).mpr (by omega)) (w_r177 hc hq hP fu MC MS hfu ad mi hf0 hX hκ hK (by omega) (by omega) ⟨hM1, H1, b1, b2, b3, b4, ⟨b5, by omega, by omega, b53⟩, ⟨b6, by omega⟩, b7, F1, b9⟩ hl ⟨c1, ho⟩ (fun _ => ⟨by omega, by omega⟩) hΦ)
    refine m_f (fun e => c1 ((nI_ltI (a := 76) (by omega) (by omega)).mp e)) ?_
    refine m_op (k := 76) ho (by decide) rfl (fun e1 => ?_) (fun e1 => ?_)
    · by_cases c4 : e ≤ p + 1
      · have e4 : e = p + 1 := by omega
        rw [show e - (p + 1) = 0 from by omega, bl_0, stS_76n e1] at hΦ
        refine m_t ((nI_leI (by omega) (by omega)).mpr c4) ?_
        unfold xv_mMa_run_96 xv_mMa_run_101 xv_mMa_run_114 xv_mMa_run_139
        refine m_bn (nI_1 (p + 1)) (m_t ?_ (m_t rfl (m_b (w_r281z fu MC MS ad mi (rnX_0 hΦ rfl hM H b8 b3 b4 b7 b9)))))
        rw [e4, nI_mm]
        exact Int32.lt_of_lt_of_le (b := 0) (by decide) (Int32.not_lt.mp (nI_pos (n := p + 1) (by omega)))
      · refine m_f (fun e => c4 ((nI_leI (by omega) (by omega)).mp e)) (m_gr g rfl (m_ai (g_at hM (hP 102 (by decide)) H.1.2.1) (inb_nI (by omega) (by decide)) ?_))
        rw [nI_clamp (n := p + 1) (by omega), b9 (p + 1) (by omega) (by omega), and255]
        unfold xv_mMa_run_96
        refine m_bn (nI_1 (p + 1)) ?_
        rw [show e - (p + 1) = (e - (p + 1 + 1)) + 1 from by omega, bl_s, stS_76 e1] at hΦ
        exact w_r101 hq hP fu MC MS ad mi he hK (by omega) (by omega) (by omega) h' hl (By_lt _) hΦ
    · rw [stS_lt (by omega)] at hΦ
      exact w_r101 hq hP fu MC MS ad mi he hK (by omega) (by omega) (by omega) h' hl ho hΦ
