-- the class's machine in the memory: the run's ops
set_option maxHeartbeats 2000000 in
theorem m_op {o k : Nat} {x : Int32} {A B : Prop} (ho : o < 256) (hk : k < 256) (hc : nI k = x) (h1 : o = k → A) (h2 : o ≠ k → B) : if nI o = x then A else B := by
  subst hc
  by_cases e : o = k
  · exact m_t (by rw [e]) (h1 e)
  · exact m_f (fun q => e ((nI_eq (by omega) (by omega)).mp q)) (h2 e)
set_option maxHeartbeats 2000000 in
theorem op1_n {sg : List Int32 → List Int32 → Bool} {k : Nat} (hk : k = 172 ∨ k = 173) {S A S' A' : Stk} {ops n' : Nat} (h : opS sg hsF k S A ops = some (S', A', n')) : n' = ops := by
  match S, h with
  | [], h => rcases hk with rfl | rfl <;> exact absurd h (by show ¬ none = some _; simp)
  | [x], h => rcases hk with rfl | rfl <;> exact absurd h (by show ¬ none = some _; simp)
  | y :: x :: S, h =>
    rcases hk with rfl | rfl
    · replace h : some (bT (sg y x) :: S, A, ops) = some (S', A', n') := h
      exact (congrArg (fun w => w.2.2) (Option.some.inj h)).symm
    · replace h : (if sg y x = true then some (S, A, ops) else none) = some (S', A', n') := h
      by_cases e : sg y x = true
      · rw [if_pos e] at h
        exact (congrArg (fun w => w.2.2) (Option.some.inj h)).symm
      · rw [if_neg e] at h
        exact absurd h (by simp)
set_option maxHeartbeats 2000000 in
theorem cmS_le {sg : List Int32 → List Int32 → Bool} {S : Stk} {ops : Nat} {w : Stk × Nat × Bool} (h : cmS sg S ops = some w) : ops + w.2.1 ≤ 201 := by
  cases S with
  | nil => exact absurd h (by show ¬ none = some w; simp)
  | cons n S =>
    replace h : (if isNu n = true ∧ 0 ≤ numL n ∧ numL n ≤ 20 ∧ ops + (numL n).toNat ≤ 201 ∧ (numL n).toNat + 1 ≤ S.length then (if isNu (S.getD (numL n).toNat []) = true ∧ 0 ≤ numL (S.getD (numL n).toNat []) ∧ numL (S.getD (numL n).toNat []) ≤ numL n ∧ (numL n).toNat + 1 + (numL (S.getD (numL n).toNat [])).toNat + 1 ≤ S.length then some (S.drop ((numL n).toNat + 1 + (numL (S.getD (numL n).toNat [])).toNat + 1), (numL n).toNat, cml sg (S.take (numL n).toNat) ((S.drop ((numL n).toNat + 1)).take (numL (S.getD (numL n).toNat [])).toNat)) else none) else none) = some w := h
    by_cases c1 : isNu n = true ∧ 0 ≤ numL n ∧ numL n ≤ 20 ∧ ops + (numL n).toNat ≤ 201 ∧ (numL n).toNat + 1 ≤ S.length
    · rw [if_pos c1] at h
      by_cases c2 : isNu (S.getD (numL n).toNat []) = true ∧ 0 ≤ numL (S.getD (numL n).toNat []) ∧ numL (S.getD (numL n).toNat []) ≤ numL n ∧ (numL n).toNat + 1 + (numL (S.getD (numL n).toNat [])).toNat + 1 ≤ S.length
      · rw [if_pos c2] at h
        have h := Option.some.inj h
        rw [← h]
        exact c1.2.2.2.1
      · rw [if_neg c2] at h; exact absurd h (by simp)
    · rw [if_neg c1] at h; exact absurd h (by simp)
set_option maxHeartbeats 2000000 in
theorem opm_n {sg : List Int32 → List Int32 → Bool} {k : Nat} (hk : k = 174 ∨ k = 175) {S A S' A' : Stk} {ops n' : Nat} (h : opS sg hsF k S A ops = some (S', A', n')) : ops ≤ n' ∧ n' ≤ 201 := by
  rw [opS_mn sg hk] at h
  unfold mnW at h
  obtain ⟨w, h1, h2⟩ := Option.bind_eq_some_iff.mp h
  have hle := cmS_le h1
  replace h2 : (if k = 174 then some (bT w.2.2 :: w.1, A, ops + w.2.1) else if w.2.2 = true then some (w.1, A, ops + w.2.1) else none) = some (S', A', n') := h2
  have e : n' = ops + w.2.1 := by
    by_cases c1 : k = 174
    · rw [if_pos c1] at h2
      exact (congrArg (fun w => w.2.2) (Option.some.inj h2)).symm
    · rw [if_neg c1] at h2
      by_cases c2 : w.2.2 = true
      · rw [if_pos c2] at h2
        exact (congrArg (fun w => w.2.2) (Option.some.inj h2)).symm
      · rw [if_neg c2] at h2; exact absurd h2 (by simp)
  omega
set_option maxHeartbeats 2000000 in
theorem w_r216 {F : Type} [Lean.Grind.Field F] [DecidableEq F] {c : Int → F} (hc : cH pP c) {P : Nat → Prop} {q : Nat → Nat} {cy : Nat → ClassId} (hq : IJ P q) (hP : ∀ k, k < 138 ∧ k ≠ 29 ∧ k ≠ 137 ∧ k ≠ 135 → P k) (fu MC MS : Nat) (hfu : 20000 ≤ fu) (ad : Nat → Nat) (mi : Nat) {C0 : Nat → va_E} {f0 : Nat} {ly : Value} {tx inn : Int32} {co : Value} {Z : List Int32} {Ds : Nat → Int32} (hf0 : f0 + 32 * 201 ≤ 14928) {sg : List Int32 → List Int32 → Bool} (hX : oX c P C0 q cy sg ly tx inn co Z) {p e f κ σ : Nat} (hκ : κ ≤ MC ∧ σ ≤ MS) {k36 : Nat → Nat → Mm → Nat → Int32 → Int32 → Prop} {Φ : Int32 → Mm → Prop} (hK : rkH c P q cy C0 f0 ly tx inn co Z Ds sg p e f κ σ k36 Φ) {p' : Nat} (hp : p < p') (hp' : p' ≤ e) {C : Nat → va_E} {M : Mm} {S A : Stk} {ops : Nat} {I : List Bool} {fr : Nat} {mit : Int32} {D m o tk : Nat → Int32} (h : lpI c P q cy C0 f0 ly tx inn co Z Ds C M S A ops I fr mit D m o tk) (hl : S.length + A.length ≤ 200) {k : Nat} (hk : 76 < k ∧ k < 256) (hb : ¬ (k = 99 ∨ k = 100 ∨ k = 103 ∨ k = 104)) (hk96 : 96 < k → fr + 32 ≤ f0 + 32 * ops) (hΦ : rnX c P q cy C0 f0 ly tx inn co Z Ds ((oS sg k (bl Ds p' (e - p')) S A ops I).bind (rnK sg f)) Φ) : xv_mMa_run_216 fu MC MS cy ad mi Φ k36 κ σ M (q 110) (nI p') (nI e) (nI k) (1 : Int32) := by
  have h' := h
  obtain ⟨hM, H, b1, b2, b3, b4, ⟨b5, b51, b52, b53⟩, ⟨b6, b61⟩, b7, b8, b9⟩ := h
  have g := g_at hM (hP 110 (by decide)) H.1.1
  have hof := offN_le I
  unfold xv_mMa_run_216
  refine m_gi g rfl ?_
  by_cases c0 : offN I = 0
  · have c0' := (offN_0 I).mp c0
    have eo : oS sg k (bl Ds p' (e - p')) S A ops I = (opS sg hsF k S A ops).map fun w => (bl Ds p' (e - p'), w.1, w.2.1, w.2.2, I) := if_neg (by rw [c0']; decide)
    rw [eo] at hΦ
    refine m_t (by rw [c0]; rfl) ?_
    unfold xv_mMa_run_239 xv_mMa_run_264 xv_mMa_run_279
    -- what comes behind an op on signatures
    have SG : 96 < k → (∀ S' A' n', opS sg hsF k S A ops = some (S', A', n') → ops ≤ n' ∧ n' ≤ 201) → sgX2 c P q cy C (opS sg hsF k S A ops) A fr (nI I.length) (nI (offN I)) ly tx inn co Z D o tk (fun v4 M3 => xv_mMa_run_281 fu MC MS cy ad mi Φ k36 κ σ M3 (q 110) (nI p') (nI e) v4) := fun hk9 hn v M' C' h1 op1 mit1 D1 m1 q1 q2 q3 q4 q5 q6 q7 => by
      have hs1 : smD D1 := smD_k b4 q5
      have hd1 : ∀ j, 64 ≤ j → j < 2064 → D1 j = Ds j := fun j j1 j2 => (q5 j (by omega)).trans (b9 j j1 j2)
      rcases q7 with ⟨e1, rfl⟩ | ⟨S', n', e1, rfl, rfl, rfl, e2, e3⟩
      · refine w_r281z fu MC MS ad mi (rnX_0 hΦ (by rw [e1]; rfl) q1 q2 (fM_t b8 q3) q4 hs1 q6 hd1)
      · have hn' := hn _ _ _ e1
        rw [e1] at hΦ
        exact w_r281 hq hP fu MC MS ad mi hK hp hp' ⟨q1, q2, e2, stH_k (Nat.le_refl _) (fun j j1 _ => q5 j j1) b2 (fun _ _ => rfl), q4, hs1, ⟨b5, by omega, by omega, e3⟩, ⟨b6, by omega⟩, q6, fM_t b8 q3, hd1⟩ hΦ
    have hkM : 96 < k → kM D fr m o S A := fun hk9 => ⟨b1, b2, b3, b4, hl, b5, by have := hk96 hk9; omega⟩
    refine m_op (k := 174) hk.2 (by decide) rfl (fun e1 => m_ck g ⟨0, 0, by omega, ?_⟩) (fun n1 => ?_)
    · exact w_many hc hq hP fu 0 0 hfu ad mi 0 0 ⟨Nat.le_refl _, Nat.le_refl _⟩ hM b52 (hkM (by omega)) H (oX_c hX b8) b7 (Or.inl e1) (SG (by omega) (fun _ _ _ => opm_n (Or.inl e1)))
    refine m_op (k := 175) hk.2 (by decide) rfl (fun e1 => m_ck g ⟨0, 0, by omega, ?_⟩) (fun n2 => ?_)
    · exact w_many hc hq hP fu 0 0 hfu ad mi 0 0 ⟨Nat.le_refl _, Nat.le_refl _⟩ hM b52 (hkM (by omega)) H (oX_c hX b8) b7 (Or.inr e1) (SG (by omega) (fun _ _ _ => opm_n (Or.inr e1)))
    have SO : (k = 172 ∨ k = 173) → ∀ S' A' n', opS sg hsF k S A ops = some (S', A', n') → ops ≤ n' ∧ n' ≤ 201 := fun hk1 S' A' n' e1 => by
      have := op1_n hk1 e1
      omega
    refine m_op (k := 172) hk.2 (by decide) rfl (fun e1 => m_ck g ⟨0, 0, by omega, ?_⟩) (fun n3 => ?_)
    · exact w_one hc hq hP fu 0 0 hfu ad mi 0 0 ⟨Nat.le_refl _, Nat.le_refl _⟩ hM (hkM (by omega)) H (oX_c hX b8) b7 (Or.inl e1) (SG (by omega) (SO (Or.inl e1)))
    refine m_op (k := 173) hk.2 (by decide) rfl (fun e1 => m_ck g ⟨0, 0, by omega, ?_⟩) (fun n4 => ?_)
    · exact w_one hc hq hP fu 0 0 hfu ad mi 0 0 ⟨Nat.le_refl _, Nat.le_refl _⟩ hM (hkM (by omega)) H (oX_c hX b8) b7 (Or.inr e1) (SG (by omega) (SO (Or.inr e1)))
    have V : ∀ (u3 : Int32) (u4 : Int64) (u5 u6 u7 u8 u9 u10 u11 : Nat → Int32), ok (x_Ma_perform fu (nI ops) (nI I.length) (nI (offN I)) tx inn mit (nI k) (nI S.length) (nI A.length) (nI fr) u3 u4 u5 u6 u7 u8 u9 u10 u11 D m o) (fun x => pfQ16 (opS sg hsF k S A ops) ops fr D x ∧ (k ≤ 96 → x.2.2.2.1 = nI fr)) := fun u3 u4 u5 u6 u7 u8 u9 u10 u11 => by
      by_cases c9 : 96 < k
      · exact ok_mono (v_Ma_perform fu (by omega) _ _ _ _ _ _ sg ops (hkM c9) hk hb (by omega) u3 u4 u5 u6 u7 u8 u9 u10 u11) (fun x hx => ⟨hx, fun z => absurd z (by omega)⟩)
      · exact ok_mono (v_Ma_performS fu _ _ _ _ _ _ sg ops b1 b2 b3 b4 hl b5 (k := k) ⟨hk.1, by omega⟩ u3 u4 u5 u6 u7 u8 u9 u10 u11) (fun x hx => ⟨hx.1, fun _ => hx.2⟩)
    refine w_Perf hq hP fu hM H V (fun v40 M56 => xv_mMa_run_281 fu MC MS cy ad mi Φ k36 κ σ M56 (q 110) (nI p') (nI e) v40) (fun v h1 oh1 f1 fl ln s1 s2 s3 r1 r2 r3 r4 D1 m1 o1 M1 C1 q1 q2 q3 q4 => ?_)
    obtain ⟨⟨q5, q6, q7⟩, q8⟩ := q4
    replace q5 : ftB D1 := q5
    replace q6 : ∀ j, j < fr → D1 j = D j := q6
    replace q8 : k ≤ 96 → f1 = nI fr := q8
    have hs1 : smD D1 := ⟨by rw [q6 32 (by omega)]; exact b4.1, fun k k1 k2 => by rw [q6 (32 + k) (by omega)]; exact b4.2 k k1 k2⟩
    have hd1 : ∀ j, 64 ≤ j → j < 2064 → D1 j = Ds j := fun j j1 j2 => (q6 j (by omega)).trans (b9 j j1 j2)
    have hm1 : mtX mit D1 Z := by
      rcases b7 with e1 | ⟨e1, e2⟩
      · exact Or.inl e1
      · exact Or.inr ⟨e1, fun j hj => by rw [q6 j (by omega)]; exact e2 j hj⟩
    rcases q7 with ⟨e1, e2⟩ | ⟨S', A', fr', e1, e2, e3, e4, e5, e6, e7, e8, e9⟩
    · replace e2 : v = 0 := e2
      subst e2
      exact w_r281z fu MC MS ad mi (rnX_0 hΦ (by rw [e1]; rfl) q1 q2 (fM_t b8 q3) q5 hs1 hm1 hd1)
    · replace e2 : v = 1 := e2
      replace e3 : h1 = nI S'.length := e3
      replace e4 : oh1 = nI A'.length := e4
      replace e5 : f1 = nI fr' := e5
      subst e2 e3 e4 e5
      rw [e1] at hΦ
      refine w_r281 hq hP fu MC MS ad mi hK hp hp' ⟨q1, q2, e7, e8, q5, hs1, ⟨by omega, ?_, b52, e9⟩, ⟨b6, b61⟩, hm1, fM_t b8 q3, hd1⟩ hΦ
      by_cases c9 : 96 < k
      · have := hk96 c9
        omega
      · have e10 := (nI_eq (a := fr') (b := fr) (by omega) (by omega)).mp (q8 (by omega))
        omega
  · have c0' : offB I = true := by
      cases ee : offB I with
      | true => rfl
      | false => exact absurd ((offN_0 I).mpr ee) c0
    have eo : oS sg k (bl Ds p' (e - p')) S A ops I = some (bl Ds p' (e - p'), S, A, ops, I) := if_pos c0'
    rw [eo] at hΦ
    exact m_f (fun e => c0 ((nI_eq (b := 0) (by omega) (by omega)).mp e)) (w_r281 hq hP fu MC MS ad mi hK hp hp' h' hΦ)
