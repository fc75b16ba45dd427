-- the class's machine in the memory: many signatures, the whole op
set_option maxHeartbeats 2000000 in
theorem gD_tk (S : Stk) {k i : Nat} (h : i < k) : (S.take k).getD i [] = S.getD i [] := by
  show ((S.take k)[i]?).getD [] = (S[i]?).getD []
  rw [List.getElem?_take, if_pos h]
set_option maxHeartbeats 2000000 in
theorem gD_dr (S : Stk) (k i : Nat) : (S.drop k).getD i [] = S.getD (k + i) [] := by
  show ((S.drop k)[i]?).getD [] = (S[k + i]?).getD []
  rw [List.getElem?_drop]
set_option maxHeartbeats 2000000 in
theorem stH_tk {D : Nat → Int32} {fr : Nat} {m : Nat → Int32} {S : Stk} {k : Nat} (h : stH D fr m S) (hk : k ≤ S.length) : stH D fr (fun j => m (S.length - k + j)) (S.take k) := stH_of fun i hi => by
  rw [List.length_take, Nat.min_eq_left hk] at hi
  rw [gD_tk S hi, List.length_take, Nat.min_eq_left hk]
  show hO D fr (m (S.length - k + (k - 1 - i))) _
  rw [show S.length - k + (k - 1 - i) = S.length - 1 - i from by omega]
  exact stH_g (by omega) h
set_option maxHeartbeats 2000000 in
theorem stH_dr {D : Nat → Int32} {fr : Nat} {m : Nat → Int32} {S : Stk} {k : Nat} (h : stH D fr m S) : stH D fr m (S.drop k) := stH_of fun i hi => by
  rw [List.length_drop] at hi
  rw [gD_dr S k i, List.length_drop, show S.length - k - 1 - i = S.length - 1 - (k + i) from by omega]
  exact stH_g (by omega) h
/-- an op on many signatures, of what cmS answers -/
def mnW (k : Nat) (w : Option (Stk × Nat × Bool)) (A : Stk) (ops : Nat) : Option (Stk × Stk × Nat) := w.bind fun w => if k = 174 then some (bT w.2.2 :: w.1, A, ops + w.2.1) else if w.2.2 = true then some (w.1, A, ops + w.2.1) else none
set_option maxHeartbeats 2000000 in
theorem opS_mn (sg : List Int32 → List Int32 → Bool) {k : Nat} (hk : k = 174 ∨ k = 175) (S A : Stk) (ops : Nat) : opS sg hsF k S A ops = mnW k (cmS sg S ops) A ops := by
  rcases hk with rfl | rfl
  · show (cmS sg S ops).map (fun w => (bT w.2.2 :: w.1, A, ops + w.2.1)) = (cmS sg S ops).bind fun w => if 174 = 174 then some (bT w.2.2 :: w.1, A, ops + w.2.1) else _
    cases cmS sg S ops <;> rfl
  · show ((cmS sg S ops).bind fun w => if w.2.2 then some (w.1, A, ops + w.2.1) else none) = (cmS sg S ops).bind fun w => if 175 = 174 then _ else if w.2.2 = true then some (w.1, A, ops + w.2.1) else none
    cases cmS sg S ops with
    | none => rfl
    | some w => rw [Option.bind_some, Option.bind_some, if_neg (show ¬ 175 = 174 by decide)]
set_option maxHeartbeats 2000000 in
theorem cmS_n1 {sg : List Int32 → List Int32 → Bool} {n : List Int32} {S : Stk} {ops : Nat} (h : ¬ (isNu n = true ∧ 0 ≤ numL n ∧ numL n ≤ 20 ∧ ops + (numL n).toNat ≤ 201 ∧ (numL n).toNat + 1 ≤ S.length)) : cmS sg (n :: S) ops = none := if_neg h
set_option maxHeartbeats 2000000 in
theorem cmS_n2 {sg : List Int32 → List Int32 → Bool} {n : List Int32} {S : Stk} {ops k : Nat} (hk : numL n = k) (h : ¬ (isNu (S.getD k []) = true ∧ 0 ≤ numL (S.getD k []) ∧ numL (S.getD k []) ≤ numL n ∧ k + 1 + (numL (S.getD k [])).toNat + 1 ≤ S.length)) : cmS sg (n :: S) ops = none := by
  show (if isNu n = true ∧ 0 ≤ numL n ∧ numL n ≤ 20 ∧ ops + (numL n).toNat ≤ 201 ∧ (numL n).toNat + 1 ≤ S.length then (if isNu (S.getD (numL n).toNat []) = true ∧ 0 ≤ numL (S.getD (numL n).toNat []) ∧ numL (S.getD (numL n).toNat []) ≤ numL n ∧ (numL n).toNat + 1 + (numL (S.getD (numL n).toNat [])).toNat + 1 ≤ S.length then _ else none) else none) = none
  rw [show (numL n).toNat = k from by omega, if_neg h]
  split <;> rfl
set_option maxHeartbeats 2000000 in
theorem cmS_s {sg : List Int32 → List Int32 → Bool} {n : List Int32} {S : Stk} {ops k l : Nat} (hk : numL n = k) (hl : numL (S.getD k []) = l) (h1 : isNu n = true) (h2 : isNu (S.getD k []) = true) (h3 : k ≤ 20) (h4 : ops + k ≤ 201) (h5 : l ≤ k) (h6 : k + 1 + l + 1 ≤ S.length) : cmS sg (n :: S) ops = some (S.drop (k + 1 + l + 1), k, cml sg (S.take k) ((S.drop (k + 1)).take l)) := by
  show (if isNu n = true ∧ 0 ≤ numL n ∧ numL n ≤ 20 ∧ ops + (numL n).toNat ≤ 201 ∧ (numL n).toNat + 1 ≤ S.length then (if isNu (S.getD (numL n).toNat []) = true ∧ 0 ≤ numL (S.getD (numL n).toNat []) ∧ numL (S.getD (numL n).toNat []) ≤ numL n ∧ (numL n).toNat + 1 + (numL (S.getD (numL n).toNat [])).toNat + 1 ≤ S.length then some (S.drop ((numL n).toNat + 1 + (numL (S.getD (numL n).toNat [])).toNat + 1), (numL n).toNat, cml sg (S.take (numL n).toNat) ((S.drop ((numL n).toNat + 1)).take (numL (S.getD (numL n).toNat [])).toNat)) else none) else none) = _
  rw [show (numL n).toNat = k from by omega, show (numL (S.getD k [])).toNat = l from by omega, if_pos ⟨h1, by omega, by omega, h4, by omega⟩, if_pos ⟨h2, by omega, by omega, h6⟩]
set_option maxHeartbeats 2000000 in
theorem w_many {F : Type} [Lean.Grind.Field F] [DecidableEq F] {c : Int → F} (hc : cH pP c) {P : Nat → Prop} {q : Nat → Nat} {cy : Nat → ClassId} (hq : IJ P q) (hP : ∀ k, k < 138 ∧ k ≠ 29 ∧ k ≠ 137 ∧ k ≠ 135 → P k) (fu MC MS : Nat) (hfu : 20000 ≤ fu) (ad : Nat → Nat) (mi : Nat) {Φ : Int32 → Mm → Prop} (κ σ : Nat) (hκ : κ ≤ MC ∧ σ ≤ MS) {C : Nat → va_E} {M : Mm} (hM : RG P q C M) {S A : Stk} {ops fr : Nat} (hops : ops ≤ 201) {i1 i2 : Int32} {ly : Value} {tx inn : Int32} {co : Value} {mit : Int32} {D m o tk : Nat → Int32} (hk : kM D fr m o S A) (H : maR c C q cy (nI S.length) (nI A.length) (nI ops) i1 i2 (nI fr) ly tx inn co mit D m o tk) {sg : List Int32 → List Int32 → Bool} {Z : List Int32} (hX : oX c P C q cy sg ly tx inn co Z) (hm : mtX mit D Z) {k : Nat} (hk2 : k = 174 ∨ k = 175) (hΦ : sgX2 c P q cy C (opS sg hsF k S A ops) A fr i1 i2 ly tx inn co Z D o tk Φ) : xw_mMa_checkMany fu MC MS cy ad mi Φ κ σ M (q 110) (nI k) := by
  have hD := hk.2.2.1
  have hsm := hk.2.2.2.1
  have hl := hk.2.2.2.2.1
  have hfr := hk.2.2.2.2.2
  rw [opS_mn sg hk2] at hΦ
  have no : ∀ (M' : Mm) (C' : Nat → va_E) (h' op' : Int32), cmS sg S ops = none → RG P q C' M' → maR c C' q cy h' (nI A.length) op' i1 i2 (nI fr) ly tx inn co mit D m o tk → fM C C' → Φ 0 M' := fun M' C' h' op' e g1 g2 g3 => hΦ 0 M' C' h' op' mit D m g1 g2 g3 hD (fun _ _ => rfl) hm (Or.inl ⟨by rw [e]; rfl, rfl⟩)
  unfold xw_mMa_checkMany
  rw [show (20 : Int32) = nI 20 from rfl]
  refine w_Pop hq hP fu (by omega) hM (by omega) hk.1 (by omega) (t := 20) (by decide) H (fun v22 M24 => mgi M24 (q 110) 6 10 _) (fun v hh M1 C1 hM1 H1 F1 hw => ?_)
  have g1 := g_at hM1 (hP 110 (by decide)) H1.1.1
  refine m_gi g1 rfl ?_
  -- a field of the machine is set
  have PT : ∀ (C0 : Nat → va_E) (M0 : Mm) (h0 op0 h1 op1 : Int32) (K : Mm → Prop), RG P q C0 M0 → maR c C0 q cy h0 (nI A.length) op0 i1 i2 (nI fr) ly tx inn co mit D m o tk → fM C C0 → (∀ M' C', RG P q C' M' → maR c C' q cy h1 (nI A.length) op1 i1 i2 (nI fr) ly tx inn co mit D m o tk → fM C C' → K M') → ((h1 = h0 → mpt M0 (q 110) 6 10 (.int op1) K) ∧ (op1 = op0 → mpt M0 (q 110) 6 8 (.int h1) K)) := fun C0 M0 h0 op0 h1 op1 K a1 a2 a3 a4 => by
    have A2 : maR c (va_up C0 110 (maO q h1 (nI A.length) op1 i1 i2 (nI fr) ly tx inn co mit)) q cy h1 (nI A.length) op1 i1 i2 (nI fr) ly tx inn co mit D m o tk := maR_c a2 (fun k hk => up_n (by omega)) up_e ((up_n (by decide)).trans a2.1.2.1) ((up_n (by decide)).trans a2.1.2.2.1) ((up_n (by decide)).trans a2.1.2.2.2.1) ((up_n (by decide)).trans a2.1.2.2.2.2)
    have A3 : fM C (va_up C0 110 (maO q h1 (nI A.length) op1 i1 i2 (nI fr) ly tx inn co mit)) := fM_t a3 (fun k hk => up_n (by omega))
    refine ⟨fun e => ?_, fun e => ?_⟩
    · subst e
      exact g_pt a1 hq (hP 110 (by decide)) a2.1.1 (show 10 < 19 by decide) (fun M' hM' => a4 M' _ hM' A2 A3)
    · subst e
      exact g_pt a1 hq (hP 110 (by decide)) a2.1.1 (show 8 < 19 by decide) (fun M' hM' => a4 M' _ hM' A2 A3)
  rcases hw with ⟨rfl, hno⟩ | ⟨n, S1, a, rfl, qn, ha, ha20, rfl, rfl⟩
  · refine m_bn (e' := nI 0) rfl (m_bn (nI_add ops 0) ((PT C1 M1 _ _ _ _ _ hM1 H1 F1 (fun M2 C2 hM2 H2 F2 => ?_)).1 rfl))
    refine m_t (by decide) (no M2 _ _ _ ?_ hM2 H2 F2)
    cases S with
    | nil => rfl
    | cons n S => exact cmS_n1 (fun e => hno n S rfl ⟨e.1, e.2.1, e.2.2.1⟩)
  · replace hl : S1.length + 1 + A.length ≤ 200 := hl
    refine m_bn (e' := nI a) (if_neg (fun e => by have := (nI_ltI (b := 0) (by omega) (by omega)).mp e; omega)) (m_bn (nI_add ops a) ((PT C1 M1 _ _ _ _ _ hM1 H1 F1 (fun M2 C2 hM2 H2 F2 => ?_)).1 rfl))
    have g2 := g_at hM2 (hP 110 (by decide)) H2.1.1
    refine m_f (fun e => by have := (nI_ltI (b := 0) (by omega) (by omega)).mp e; omega) (m_gi g2 rfl ?_)
    by_cases c1 : 201 < ops + a
    · exact m_t ((nI_ltI (a := 201) (by omega) (by omega)).mpr c1) (no M2 _ _ _ (cmS_n1 fun e => by have := e.2.2.2.1; omega) hM2 H2 F2)
    refine m_f (fun e => c1 ((nI_ltI (a := 201) (by omega) (by omega)).mp e)) (m_gi g2 rfl ?_)
    by_cases c2 : a ≤ S1.length
    · refine m_t ((nI_leI (by omega) (by omega)).mpr c2) (m_gi g2 rfl (m_bn (nI_sb c2) ((PT _ M2 _ _ _ _ _ hM2 H2 F2 (fun M3 C3 hM3 H3 F3 => ?_)).2 rfl)))
      have g3 := g_at hM3 (hP 110 (by decide)) H3.1.1
      refine m_gi g3 rfl (m_bn (e' := nI S1.length) (by rw [nI_add, Nat.sub_add_cancel c2]) ?_)
      have sD : stH D fr m (S1.drop a) := stH_dr hk.1.2
      have lD : (S1.drop a).length = S1.length - a := List.length_drop ..
      have H3' := H3
      rw [← lD] at H3'
      by_cases c3 : S1.length = 0
      · -- nothing is left for the number of signatures
        have e0 : S1 = [] := List.eq_nil_of_length_eq_zero c3
        have a0 : a = 0 := by omega
        refine m_bv (fun v36 _ => ?_)
        refine w_Pop hq hP fu (by omega) hM3 (by omega) sD (by omega) (t := a) ha20 H3' (fun v58 M60 => if v58 < 0 then _ else _) (fun v hh M4 C4 hM4 H4 F4 hw => ?_)
        rcases hw with ⟨rfl, hno⟩ | ⟨n2, R1, b, e1, -⟩
        · exact m_t (by decide) (no M4 _ _ _ (cmS_n1 fun e => by have := e.2.2.2.2; omega) hM4 H4 (fM_t F3 F4))
        · rw [e0, List.drop_nil] at e1
          exact absurd e1 (by simp)
      refine m_bn (e' := nI (S1.length - 1)) (nI_sb (b := 1) (by omega)) ?_
      refine w_Pop hq hP fu (by omega) hM3 (by omega) sD (by omega) (t := a) ha20 H3' (fun v58 M60 => if v58 < 0 then _ else _) (fun v hh M4 C4 hM4 H4 F4 hw => ?_)
      have gd0 : S1.getD a [] = (S1.drop a).getD 0 [] := by rw [gD_dr S1 a 0, Nat.add_zero]
      rcases hw with ⟨rfl, hno⟩ | ⟨n2, R1, b, e1, qm, hb, hba, rfl, rfl⟩
      · refine m_t (by decide) (no M4 _ _ _ ?_ hM4 H4 (fM_t F3 F4))
        by_cases c4 : a + 1 ≤ S1.length
        · obtain ⟨n2, R1, e1⟩ : ∃ n2 R1, S1.drop a = n2 :: R1 := by
            cases hd : S1.drop a with
            | nil => rw [hd] at lD; replace lD : 0 = S1.length - a := lD; omega
            | cons n2 R1 => exact ⟨n2, R1, rfl⟩
          have gd1 : S1.getD a [] = n2 := by rw [gd0, e1]; rfl
          refine cmS_n2 ha (fun e => hno n2 R1 e1 ⟨?_, ?_, ?_⟩)
          · rw [← gd1]; exact e.1
          · rw [← gd1]; exact e.2.1
          · rw [← gd1]; have := e.2.2.1; omega
        · exact cmS_n1 (fun e => by have := e.2.2.2.2; omega)
      · have gd1 : S1.getD a [] = n2 := by rw [gd0, e1]; rfl
        have eR : S1.drop (a + 1) = R1 := by rw [← List.drop_drop, e1]; rfl
        have lR : R1.length = S1.length - a - 1 := by rw [← eR, List.length_drop]; omega
        have la : a + 1 ≤ S1.length := by
          have := lD
          rw [e1] at this
          replace this : R1.length + 1 = S1.length - a := this
          omega
        have g4 := g_at hM4 (hP 110 (by decide)) H4.1.1
        refine m_f (fun e => by have := (nI_ltI (b := 0) (by omega) (by omega)).mp e; omega) (m_gi g4 rfl ?_)
        rw [nI_1 b]
        by_cases c5 : b + 1 ≤ R1.length
        · refine m_t ((nI_leI (by omega) (by omega)).mpr c5) (m_gi g4 rfl (m_bn (e' := nI (R1.length - 1)) (nI_sb (b := 1) (by omega)) (m_gi g4 rfl ?_)))
          refine m_bn (nI_sb c5) ((PT C4 M4 _ _ _ _ _ hM4 H4 (fM_t F3 F4) (fun M5 C5 hM5 H5 F5 => ?_)).2 rfl)
          have sR : stH D fr m R1 := by rw [← eR]; exact stH_dr hk.1.2
          have lT : (S1.take a).length = a := by rw [List.length_take]; omega
          have lS : (R1.take b).length = b := by rw [List.length_take]; omega
          have lE : (R1.drop (b + 1)).length = R1.length - (b + 1) := List.length_drop ..
          have eC : cmS sg (n :: S1) ops = some (R1.drop (b + 1), a, cml sg (S1.take a) (R1.take b)) := by
            rw [cmS_s ha (l := b) (by rw [gd1]; exact hb) qn (by rw [gd1]; exact qm) ha20 (by omega) hba (by omega), eR, ← eR, List.drop_drop, show a + 1 + (b + 1) = a + 1 + b + 1 from by omega]
          rw [eC] at hΦ
          have H5' := H5
          rw [← lE] at H5'
          have R := w_mn110 hc hq hP fu MC MS hfu ad mi (C0 := C) (A := A) (n := ops + a) hsm hfr (S := R1.drop (b + 1)) (stH_dr sR) (by rw [lE]; omega) hX hk2 (kb := S1.length - a) (sb := R1.length - b) (by omega) (by omega) hΦ (S1.take a) (R1.take b) fu _ M5 mit D κ σ hκ hM5 H5' F5 hD (fun _ _ => rfl) hm (stH_tk hk.1.2 c2) (stH_tk sR (by omega)) (by omega) (by omega) (by omega) (by omega) (by omega) rfl
          rw [lT, lS, show S1.length - a + a - 1 = S1.length - 1 from by omega, show R1.length - b + b - 1 = R1.length - 1 from by omega] at R
          exact R
        · refine m_f (fun e => c5 ((nI_leI (by omega) (by omega)).mp e)) (no M4 _ _ _ (cmS_n2 ha fun e => ?_) hM4 H4 (fM_t F3 F4))
          have := e.2.2.2
          rw [gd1, hb] at this
          replace this : a + 1 + b + 1 ≤ S1.length := this
          omega
    · exact m_f (fun e => c2 ((nI_leI (by omega) (by omega)).mp e)) (no M2 _ _ _ (cmS_n1 fun e => by have := e.2.2.2.2; omega) hM2 H2 F2)
