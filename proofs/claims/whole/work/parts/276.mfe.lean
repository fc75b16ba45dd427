-- the small calls of the keeper: feed, end, hash, tip
def rowG (g : Nat → Int32) (R : List Int32) : Prop := (∀ j, j < R.length → g j = lf R j) ∧ ftB g ∧ ftB (lf R) ∧ R.length ≤ 3000
set_option maxHeartbeats 400000 in
theorem rowG_p {g : Nat → Int32} {R : List Int32} (h : rowG g R) (hl : R.length < 3000) {x : Int32} (hx : fits .byte (.int x) = true) : rowG (upd g R.length x) (R ++ [x]) := by
  obtain ⟨h1, h2, h3, h4⟩ := h
  have hle : (R ++ [x]).length = R.length + 1 := by rw [List.length_append]; rfl
  refine ⟨fun j hj => ?_, fun j => ?_, fun j => ?_, by omega⟩
  · rw [lf_ap]
    by_cases e : j = R.length
    · rw [if_pos e, e, pk_us]
    · rw [if_neg e, pk_un e]
      exact h1 j (by omega)
  · by_cases e : j = R.length
    · rw [e, pk_us]; exact hx
    · rw [pk_un e]; exact h2 j
  · rw [lf_ap]
    by_cases e : j = R.length
    · rw [if_pos e]; exact hx
    · rw [if_neg e]; exact h3 j
set_option maxHeartbeats 400000 in
theorem l_app (fu : Nat) (i1 i2 x : Int32) : ∀ k n g R, k ≤ 4 → k < n → rowG g R → R.length + k ≤ 3000 → ok (x_K_append_3 fu i1 i2 n x (nI (8 * k) + (-8)) (nI R.length) g) (fun t => t.1 = nI (R.length + k) ∧ rowG t.2 (R ++ f4L x k))
  | 0, n + 1, g, R, _, _, h, _ => by
    show ok (xb_K_append_3 fu i1 i2 (x_K_append_3 fu i1 i2 n) x (nI (8 * 0) + (-8)) (nI R.length) g) _
    unfold xb_K_append_3
    refine ok_t (by decide) (ok_some ⟨rfl, ?_⟩)
    show rowG g (R ++ [])
    rw [List.append_nil]; exact h
  | k + 1, n + 1, g, R, hk, hn, h, hl => by
    show ok (xb_K_append_3 fu i1 i2 (x_K_append_3 fu i1 i2 n) x (nI (8 * (k + 1)) + (-8)) (nI R.length) g) _
    have e : nI (8 * (k + 1)) + (-8) = nI (8 * k) := by
      have cs : k = 0 ∨ k = 1 ∨ k = 2 ∨ k = 3 := by omega
      rcases cs with rfl | rfl | rfl | rfl <;> rfl
    rw [e]
    unfold xb_K_append_3
    refine ok_f (fun g => absurd ((nI_ltI (a := 8 * k) (b := 0) (by omega) (by omega)).mp g) (Nat.not_lt_zero _)) (ok_bn (e' := bt x (8 * k)) (bt_us x _ (k := 8 * k) ?_) (ok_gd (inb_nI (by omega) (by decide)) ?_))
    · have cs : k = 0 ∨ k = 1 ∨ k = 2 ∨ k = 3 := by omega
      rcases cs with rfl | rfl | rfl | rfl <;> decide
    rw [nI_clamp (n := R.length) (by omega), show vp_nar .byte (bt x (8 * k)) = bt x (8 * k) from pk_vb _]
    refine ok_bnd (ok_bn (e' := nI (R.length + 1)) (nI_add _ 1) (ok_bnd ?_))
    have hle : (R ++ [bt x (8 * k)]).length = R.length + 1 := by rw [List.length_append]; rfl
    have ih := l_app fu i1 i2 x k n _ (R ++ [bt x (8 * k)]) (by omega) (by omega) (rowG_p h (by omega) (pk_fb _)) (by omega)
    rw [hle] at ih
    refine ok_mono ih fun t ht => ⟨ht.1.trans (congrArg nI (by omega)), ?_⟩
    have := ht.2
    rw [List.append_assoc] at this
    exact this
set_option maxHeartbeats 400000 in
theorem v_K_append (fu : Nat) (hfu : 5 ≤ fu) (i1 i2 x : Int32) {g : Nat → Int32} {R : List Int32} (h : rowG g R) (hl : R.length + 4 ≤ 3000) : ok (x_K_append fu i1 i2 x (nI R.length) g) (fun t => t.1 = nI (R ++ f4L x 4).length ∧ rowG t.2 (R ++ f4L x 4)) := by
  unfold x_K_append
  refine ok_mono (l_app fu i1 i2 x 4 fu g R (by decide) (by omega) h hl) fun t ht => ⟨ht.1.trans ?_, ht.2⟩
  rw [List.length_append, f4L_len]
set_option maxHeartbeats 400000 in
theorem w_App (fu : Nat) (hfu : 5 ≤ fu) {cy : Nat → ClassId} {P : Nat → Prop} {q : Nat → Nat} {C : Nat → va_E} {M : Mm} (hM : RG P q C M) (hq : IJ P q) (hP : ∀ k, k < 138 ∧ k ≠ 29 ∧ k ≠ 137 ∧ k ≠ 135 → P k) {R : List Int32} {tip : Nat} {tk ck' : Int32} (hK : C 103 = kpO q (nI R.length) tip tk ck') {g : Nat → Int32} (h104 : C 104 = .inl (cy 0, 3000, .inl g)) (hg : rowG g R) (hl : R.length + 4 ≤ 3000) (x : Int32) (K : Mm → Prop) (hK' : ∀ M' C' g', RG P q C' M' → C' 103 = kpO q (nI (R ++ f4L x 4).length) tip tk ck' → C' 104 = .inl (cy 0, 3000, .inl g') → rowG g' (R ++ f4L x 4) → (∀ j, j ≠ 103 → j ≠ 104 → C' j = C j) → K M') : ∃ (b3 : Value) (b4 : Value) (b5 : Value) (b6 : Value) (b7 : Value) (b8 : Value) (b9 : Value) (b10 : Value) (b11 : Value) (b12 : Nat) (c13 : Int32) (c14 : Int32) (c15 : Int32) (c16 : Nat → Int32), mal M [((q 103), .inr (0, [.ref b12, .int c15, b3, b4, b5, b6, b7, b8, b9, b10, b11, .int c13, .int c14])), (b12, .inl (cy 0, 3000, .inl c16))] ∧ mnd (List.map (fun x : Nat × va_E => x.1) [((q 103), .inr (0, [.ref b12, .int c15, b3, b4, b5, b6, b7, b8, b9, b10, b11, .int c13, .int c14])), (b12, .inl (cy 0, 3000, .inl c16))]) ∧ ∃ (c17 : Int32) (c18 : Nat → Int32), x_K_append fu c13 c14 x c15 c16 = some (c17, c18) ∧ bnd (mov M [((q 103), .inr (0, [.ref b12, .int c17, b3, b4, b5, b6, b7, b8, b9, b10, b11, .int c13, .int c14])), (b12, .inl (cy 0, 3000, .inl c18))]) fun M19 => K M19 := by
  obtain ⟨⟨n', g'⟩, he, h1, h2⟩ := v_K_append fu hfu tk ck' x hg hl
  replace h1 : n' = nI (R ++ f4L x 4).length := h1
  replace h2 : rowG g' (R ++ f4L x 4) := h2
  subst h1
  have hin : ∀ k, k ∈ [103, 104] → P k := fun k hk => by
    simp only [List.mem_cons, List.not_mem_nil, or_false] at hk
    exact hP k (by omega)
  refine ⟨_, _, _, _, _, _, _, _, _, _, _, _, _, _, mal_c (g_at hM (hP 103 (by decide)) hK) (mal_c (g_at hM (hP 104 (by decide)) h104) (mal_n _)), gnd hq [103, 104] hin (by decide), _, _, he, ?_⟩
  have n1 : ∀ j, j ≠ 103 → j ≠ 104 → va_up (va_up C 103 (kpO q (nI (R ++ f4L x 4).length) tip tk ck')) 104 (.inl (cy 0, 3000, .inl g')) j = C j := fun j a b => by rw [up_n b, up_n a]
  exact g_lf (K := K) hM hq (va_up (va_up C 103 (kpO q (nI (R ++ f4L x 4).length) tip tk ck')) 104 (.inl (cy 0, 3000, .inl g'))) [103, 104] hin (fun k _ hk => by
    simp only [List.mem_cons, List.not_mem_nil, or_false] at hk
    exact n1 k (by omega) (by omega)) (fun M' hM' => hK' M' _ g' hM' (by rw [up_n (by decide), up_e]) up_e h2 n1)
set_option maxHeartbeats 400000 in
/-- the row has changed -/
theorem kpS_r {F : Type} [Lean.Grind.Field F] [DecidableEq F] {c : Int → F} {cy : Nat → ClassId} {ad : Nat → Nat} {P : Nat → Prop} {q : Nat → Nat} {C : Nat → va_E} {M : Mm} {C' : Nat → va_E} {M' : Mm} {S : Ab} {R : List Int32} {vl : Nat → Bool} {mk : Nat → Nat} {s : Ld} {cb : Nat} {R' : List Int32} (h : kpS c P q C M cy ad S R vl mk s cb) (hM : RG P q C' M') {ck' : Int32} (h103 : C' 103 = kpO q (nI R'.length) S.2.2.2.2.2.2.2.1 (nI (sBr S.2.2.2.2.2.2.1 S.1)) ck') {g : Nat → Int32} (h104 : C' 104 = .inl (cy 0, 3000, .inl g)) (hg : rowG g R') (hF : ∀ j, j ≠ 103 → j ≠ 104 → C' j = C j) : kpS c P q C' M' cy ad S R' vl mk s cb := by
  obtain ⟨⟨-, hS, -, hly, ⟨f, h134⟩, hmc, hal⟩, -, ⟨gi, h105, hgi⟩, h1, h2⟩ := h
  exact ⟨⟨hM, ldM_c hS (fun k hk => hF k (by omega) (by omega)), ⟨ck', h103⟩, lyX_q hly (fun k a b => ⟨hF k (by omega) (by omega), rfl⟩), ⟨f, (hF 134 (by decide) (by decide)).trans h134⟩, mcX_q hmc (fun k _ a b _ => hF k a b) (fun _ _ => rfl), alR_c hal (hF 133 (by decide) (by decide)) (hF 222 (by decide) (by decide))⟩, ⟨g, h104, hg.1, hg.2.1⟩, ⟨gi, (hF 105 (by decide) (by decide)).trans h105, hgi⟩, h1, h2⟩
set_option maxHeartbeats 2000000 in
theorem w_feed {F : Type} [Lean.Grind.Field F] [DecidableEq F] {c : Int → F} (fu MC MS : Nat) (cy : Nat → ClassId) (ad : Nat → Nat) (mi : Nat) (hfu : 5 ≤ fu) {P : Nat → Prop} {q : Nat → Nat} {C : Nat → va_E} {M : Mm} {S : Ab} {R : List Int32} {vl : Nat → Bool} {mk : Nat → Nat} {s : Ld} {cb : Nat} (h : kpS c P q C M cy ad S R vl mk s cb) (hR : ftB (lf R) ∧ R.length + 20 ≤ 3000) (x1 x2 x3 x4 x5 : Int32) {κ σ : Nat} {Φ : Int32 → Mm → Prop} (hΦ : ∀ M' C', kpS c P q C' M' cy ad S (R ++ fd x1 x2 x3 x4 x5) vl mk s cb → (∀ j, 135 ≤ j → C' j = C j) → Φ (nI (R.length + 20)) M') : xw_mK_feed fu MC MS cy ad mi Φ κ σ M (q 103) x1 x2 x3 x4 x5 := by
  have h' := h
  obtain ⟨⟨hM, ⟨sl, hS⟩, ⟨ck', hK⟩, -⟩, ⟨g, h104, hg, hgf⟩, -⟩ := h'
  obtain ⟨hq, hP, -⟩ := hS.1
  have m103 := g_at hM (hP 103 (by decide)) hK
  unfold xw_mK_feed
  refine m_gi m103 rfl (m_bn (e' := nI (R.length + 20)) (nI_add _ 20) (m_t ((nI_leI (a := R.length + 20) (b := 3000) (by omega) (by omega)).mpr (by omega)) ?_))
  refine w_App fu hfu hM hq hP hK h104 ⟨hg, hgf, hR.1, by omega⟩ (by omega) x1 _ (fun M1 C1 g1 hM1 hK1 h1 hg1 hF1 => ?_)
  have l1 : (R ++ f4L x1 4).length = R.length + 4 := by rw [List.length_append, f4L_len]
  refine w_App fu hfu hM1 hq hP hK1 h1 hg1 (by omega) x2 _ (fun M2 C2 g2 hM2 hK2 h2 hg2 hF2 => ?_)
  have l2 : (R ++ f4L x1 4 ++ f4L x2 4).length = R.length + 8 := by rw [List.length_append, f4L_len]; omega
  refine w_App fu hfu hM2 hq hP hK2 h2 hg2 (by omega) x3 _ (fun M3 C3 g3 hM3 hK3 h3 hg3 hF3 => ?_)
  have l3 : (R ++ f4L x1 4 ++ f4L x2 4 ++ f4L x3 4).length = R.length + 12 := by rw [List.length_append, f4L_len]; omega
  refine w_App fu hfu hM3 hq hP hK3 h3 hg3 (by omega) x4 _ (fun M4 C4 g4 hM4 hK4 h4 hg4 hF4 => ?_)
  have l4 : (R ++ f4L x1 4 ++ f4L x2 4 ++ f4L x3 4 ++ f4L x4 4).length = R.length + 16 := by rw [List.length_append, f4L_len]; omega
  refine w_App fu hfu hM4 hq hP hK4 h4 hg4 (by omega) x5 _ (fun M5 C5 g5 hM5 hK5 h5 hg5 hF5 => ?_)
  have l5 : (R ++ f4L x1 4 ++ f4L x2 4 ++ f4L x3 4 ++ f4L x4 4 ++ f4L x5 4).length = R.length + 20 := by rw [List.length_append, f4L_len]; omega
  have eL : R ++ f4L x1 4 ++ f4L x2 4 ++ f4L x3 4 ++ f4L x4 4 ++ f4L x5 4 = R ++ fd x1 x2 x3 x4 x5 := by
    unfold fd
    simp only [List.append_assoc]
  have hF : ∀ j, j ≠ 103 → j ≠ 104 → C5 j = C j := fun j a b => (hF5 j a b).trans ((hF4 j a b).trans ((hF3 j a b).trans ((hF2 j a b).trans (hF1 j a b))))
  refine m_gi (g_at hM5 (hP 103 (by decide)) hK5) rfl ?_
  rw [l5]
  rw [eL] at hK5 hg5
  exact hΦ M5 C5 (kpS_r h hM5 hK5 h5 hg5 hF) (fun j hj => hF j (by omega) (by omega))
set_option maxHeartbeats 400000 in
theorem w_end {F : Type} [Lean.Grind.Field F] [DecidableEq F] {c : Int → F} (fu MC MS : Nat) (cy : Nat → ClassId) (ad : Nat → Nat) (mi : Nat) {P : Nat → Prop} {q : Nat → Nat} {C : Nat → va_E} {M : Mm} {S : Ab} {R : List Int32} {vl : Nat → Bool} {mk : Nat → Nat} {s : Ld} {cb : Nat} (h : kpS c P q C M cy ad S R vl mk s cb) (hR : ftB (lf R) ∧ R.length ≤ 3000) {n : Nat} (hn : n ≤ R.length) {κ σ : Nat} {Φ : Int32 → Mm → Prop} (hΦ : ∀ M' C', kpS c P q C' M' cy ad S (R.take n) vl mk s cb → (∀ j, 135 ≤ j → C' j = C j) → Φ (nI n) M') : xw_mK_end fu MC MS cy ad mi Φ κ σ M (q 103) (nI n) := by
  have h' := h
  obtain ⟨⟨hM, ⟨sl, hS⟩, ⟨ck', hK⟩, -⟩, ⟨g, h104, hg, hgf⟩, -⟩ := h'
  obtain ⟨hq, hP, -⟩ := hS.1
  have m103 := g_at hM (hP 103 (by decide)) hK
  unfold xw_mK_end
  refine m_f (fun z => absurd ((nI_ltI (a := n) (b := 0) (by omega) (by omega)).mp z) (Nat.not_lt_zero _)) (m_gi m103 rfl (m_t ((nI_leI (a := n) (b := R.length) (by omega) (by omega)).mpr hn) (g_pt hM hq (hP 103 (by decide)) hK (show 1 < 13 by decide) (fun M1 hM1 => ?_))))
  have ln : (R.take n).length = n := by rw [List.length_take]; omega
  refine hΦ M1 _ (kpS_r h hM1 (R' := R.take n) (ck' := ck') ?_ ((up_n (by decide)).trans h104) ⟨fun j hj => ?_, hgf, lf_tf hR.1 n, by omega⟩ (fun j a _ => up_n a)) (fun j hj => up_n (by omega))
  · rw [ln]
    exact up_e
  · rw [hg j (by omega), lf_tk R n (by omega)]
set_option maxHeartbeats 400000 in
/-- nothing but Sha256's cells and the id has changed -/
theorem kpS_i {F : Type} [Lean.Grind.Field F] [DecidableEq F] {c : Int → F} {cy : Nat → ClassId} {ad : Nat → Nat} {P : Nat → Prop} {q : Nat → Nat} {C : Nat → va_E} {M : Mm} {C' : Nat → va_E} {M' : Mm} {S : Ab} {R : List Int32} {vl : Nat → Bool} {mk : Nat → Nat} {s : Ld} {cb : Nat} (h : kpS c P q C M cy ad S R vl mk s cb) (hM : RG P q C' M') (hs : shX C' q cy) {gi : Nat → Int32} (h105 : C' 105 = .inl (cy 0, 32, .inl gi)) (hgi : ftB gi) (hF : fS 105 C C') : kpS c P q C' M' cy ad S R vl mk s cb := by
  obtain ⟨⟨-, hS, ⟨ck', hK⟩, hly, ⟨f, h134⟩, hmc, hal⟩, ⟨g, h104, hg⟩, -, h1, h2⟩ := h
  have e : ∀ k, 110 ≤ k → C' k = C k := fun k hk => hF k (by omega) (by omega)
  exact ⟨⟨hM, ldM_c hS (fun k hk => e k (by omega)), ⟨ck', (hF 103 (by decide) (by decide)).trans hK⟩, lyX_q hly (fun k a b => ⟨e k (by omega), rfl⟩), ⟨f, (e 134 (by decide)).trans h134⟩, mcX_sh hmc hs (fun k _ _ _ a b => hF k b a) (fun _ _ => rfl), alR_c hal (e 133 (by decide)) (e 222 (by decide))⟩, ⟨g, (hF 104 (by decide) (by decide)).trans h104, hg⟩, ⟨gi, h105, hgi⟩, h1, h2⟩
set_option maxHeartbeats 400000 in
theorem kpS_m {F : Type} [Lean.Grind.Field F] [DecidableEq F] {c : Int → F} {cy : Nat → ClassId} {ad : Nat → Nat} {P : Nat → Prop} {q : Nat → Nat} {C : Nat → va_E} {M : Mm} {M' : Mm} {S : Ab} {R : List Int32} {vl : Nat → Bool} {mk : Nat → Nat} {s : Ld} {cb : Nat} (h : kpS c P q C M cy ad S R vl mk s cb) (hM : RG P q C M') : kpS c P q C M' cy ad S R vl mk s cb := ⟨⟨hM, h.1.2⟩, h.2⟩
set_option maxHeartbeats 400000 in
theorem w_hash {F : Type} [Lean.Grind.Field F] [DecidableEq F] {c : Int → F} (fu MC MS : Nat) (cy : Nat → ClassId) (ad : Nat → Nat) (mi : Nat) (hfu : 4000 ≤ fu) {P : Nat → Prop} {q : Nat → Nat} {C : Nat → va_E} {M : Mm} {S : Ab} {R : List Int32} {vl : Nat → Bool} {mk : Nat → Nat} {s : Ld} {cb : Nat} (h : kpS c P q C M cy ad S R vl mk s cb) (hR : ftB (lf R) ∧ R.length ≤ 3000) {k : Nat} (hk : k < 8) {κ σ : Nat} {Φ : Int32 → Mm → Prop} (hΦ : ∀ M' C', kpS c P q C' M' cy ad S R vl mk s cb → (∀ j, 135 ≤ j → C' j = C j) → Φ (nI (leP (dbl (lf R) R.length) (4 * k) 4)) M') : xw_mK_hash fu MC MS cy ad mi Φ κ σ M (q 103) (nI k) := by
  have h' := h
  obtain ⟨⟨hM, ⟨sl, hS⟩, ⟨ck', hK⟩, -, -, hmc, -⟩, ⟨g, h104, hg, hgf⟩, ⟨gi, h105, hgi⟩, -⟩ := h'
  obtain ⟨hq, hP, -⟩ := hS.1
  obtain ⟨h_, oh, op, i1_, i2_, fr, ly, tx, inn, cox, mit, D, m_, o_, tk_, se, Hm, -⟩ := id hmc
  have m103 := g_at hM (hP 103 (by decide)) hK
  unfold xw_mK_hash
  refine m_f (fun z => absurd ((nI_ltI (a := k) (b := 0) (by omega) (by omega)).mp z) (Nat.not_lt_zero _)) (m_t ((nI_leI (a := k) (b := 7) (by omega) (by omega)).mpr (by omega)) (m_gr m103 rfl (m_gr m103 rfl (m_gi m103 rfl (m_gr m103 rfl (m_f (fun z => absurd (hq _ _ (hP 104 (by decide)) (hP 105 (by decide)) z) (by decide)) ?_))))))
  refine w_Tw fu hfu hM hq hP Hm.2.1 (hP 104 (by decide)) (hP 105 (by decide)) (by decide) (by decide) (by decide) h104 h105 (by decide) (by decide) (a := 0) (N := R.length) (o := 0) (by omega) (by omega) (by decide) (fun j _ => hgf _) hgi _ (fun M1 C1 gd hM1 hs1 hd1 hj1 hF1 => ?_)
  have hfd : ftB gd := ftB_r hgi (fun j => dbl_f _ _ j) hj1
  refine m_gr (g_at hM1 (hP 103 (by decide)) ((hF1 103 (by decide) (by decide)).trans hK)) rfl (m_bn (e' := nI (4 * k)) (pk_mul 4 k) ?_)
  refine w_Word fu hM1 hq (hP 105 (by decide)) hd1 (by decide) (o := 4 * k) (by omega) _ (fun M2 hM2 => ?_)
  have e1 : leP gd (4 * k) 4 = leP (dbl (lf R) R.length) (4 * k) 4 := leP_c (fun j hj => by
    rw [hj1, if_pos (by omega), Nat.sub_zero, dbl_c (m := fun i => g (0 + i)) (m' := lf R) (n := R.length) (fun i hi => by rw [Nat.zero_add]; exact hg i hi)])
  rw [e1]
  exact hΦ M2 C1 (kpS_i h hM2 hs1 hd1 hfd hF1) (fun j hj => hF1 j (by omega) (by omega))
set_option maxHeartbeats 400000 in
theorem w_tip {F : Type} [Lean.Grind.Field F] [DecidableEq F] {c : Int → F} (fu MC MS : Nat) (cy : Nat → ClassId) (ad : Nat → Nat) (mi : Nat) (hfu : 300 ≤ fu) {P : Nat → Prop} {q : Nat → Nat} {C : Nat → va_E} {M : Mm} {S : Ab} {R : List Int32} {vl : Nat → Bool} {mk : Nat → Nat} {s : Ld} {cb : Nat} (h : kpS c P q C M cy ad S R vl mk s cb) {sgB : Nat → List Int32 → List Int32 → Bool} (hI : aIS sgB S) {k : Nat} (hk : k < 12) {κ σ : Nat} (hκ : κ ≤ MC ∧ σ ≤ MS) {Φ : Int32 → Mm → Prop} (hΦ : ∀ y M', tpA S.2.1 S.2.2.1 S.2.2.2.1 S.2.2.2.2.1 S.2.2.2.2.2.2.1 S.2.2.2.2.2.2.2.1 k y → kpS c P q C M' cy ad S R vl mk s cb → Φ y M') : xw_mK_tip fu MC MS cy ad mi Φ κ σ M (q 103) (nI k) := by
  obtain ⟨nb, par, hgt, tim, bit, bad, rw, tip, U⟩ := S
  replace hI : aI sgB nb par hgt tim bit bad rw tip U := hI
  have hIg := fun {k : Nat} (hk : k < nb) => aI_g hI hk
  have hIh := aI_h hI
  obtain ⟨⟨i1, i2⟩, hA, hp, hh, hti, hdi, hsB, ⟨htip, ix, hU⟩, hb0⟩ := id hI
  have h' := h
  obtain ⟨⟨hM, ⟨sl, hS⟩, ⟨ck', hK⟩, -⟩, -⟩ := h'
  obtain ⟨hq, hP, -⟩ := hS.1
  have m103 := g_at hM (hP 103 (by decide)) hK
  obtain ⟨⟨p0, -, p2, -⟩, c0, -, ⟨gi, c2, c2'⟩, -⟩ := hS.2.1.1 tip htip
  have mt := g_at hM p0 c0
  unfold xw_mK_tip
  refine m_f (fun z => absurd ((nI_ltI (a := k) (b := 0) (by omega) (by omega)).mp z) (Nat.not_lt_zero _)) (m_t ((nI_leI (a := k) (b := 11) (by omega) (by omega)).mpr (by omega)) ?_)
  have hne : ∀ m, m < 100 → k ≠ m → ¬ nI k = nI m := fun m hm he z => he ((nI_eq32 (a := k) (b := m) (by omega) (by omega)).mp z)
  by_cases g8 : 8 ≤ k
  · refine m_t ((nI_leI (a := 8) (b := k) (by omega) (by omega)).mpr g8) ?_
    by_cases e8 : k = 8
    · subst e8
      exact m_t rfl (m_gr m103 rfl (m_gi mt rfl (hΦ _ M (Or.inr (Or.inl ⟨rfl, rfl⟩)) h)))
    refine m_f (hne 8 (by decide) e8) ?_
    by_cases e9 : k = 9
    · subst e9
      refine m_t rfl (m_gr m103 rfl (m_gj mt rfl (m_bn (e' := nI (tim tip)) iN_l (hΦ _ M (Or.inr (Or.inr (Or.inl ⟨rfl, rfl⟩))) h))))
    refine m_f (hne 9 (by decide) e9) ?_
    by_cases e10 : k = 10
    · subst e10
      exact m_t rfl (m_gr m103 rfl (m_gi mt rfl (hΦ _ M (Or.inr (Or.inr (Or.inr (Or.inl ⟨rfl, rfl⟩)))) h)))
    refine m_f (hne 10 (by decide) e10) (m_gr m103 rfl (m_ck mt ⟨0, 0, by omega, ?_⟩))
    refine w_want fu 0 0 cy ad mi hfu hM hS.2.1 (by omega) hp hh (fun k hk => show hgt k ≤ 57 by have := hIh k hk; have : k < nb := hk; omega) (fun k hk => hIg hk) htip ⟨Nat.le_refl _, Nat.le_refl _⟩ (fun y hy => hΦ y M (Or.inr (Or.inr (Or.inr (Or.inr ⟨by omega, hy⟩)))) h)
  · refine m_f (fun z => g8 ((nI_leI (a := 8) (b := k) (by omega) (by omega)).mp z)) (m_gr m103 rfl (m_gr mt rfl (m_bn (e' := nI (4 * k)) (pk_mul 4 k) ?_)))
    refine w_Word fu hM hq p2 c2 (by decide) (o := 4 * k) (by omega) _ (fun M1 hM1 => hΦ _ M1 (Or.inl ⟨by omega, ?_⟩) (kpS_m h hM1))
    exact congrArg nI (leP_c (fun j hj => c2' _ (by omega)))
