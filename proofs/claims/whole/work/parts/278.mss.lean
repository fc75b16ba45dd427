-- the small calls of the keeper: script, signed
set_option maxHeartbeats 400000 in
theorem w_SpN {F : Type} [Lean.Grind.Field F] [DecidableEq F] {c : Int → F} (fu : Nat) {cy : Nat → ClassId} {P : Nat → Prop} {q : Nat → Nat} {C : Nat → va_E} {M : Mm} (hM : RG P q C M) (hq : IJ P q) (hP : ∀ k, k < 138 ∧ k ≠ 29 ∧ k ≠ 137 ∧ k ≠ 135 → P k) {h oh op i1 i2 fr : Int32} {ly : Value} {tx inn : Int32} {co : Value} {mit : Int32} {D m o tk : Nat → Int32} (H : maR c C q cy h oh op i1 i2 fr ly tx inn co mit D m o tk) (K : Mm → Prop) (hK : ∀ M' C', RG P q C' M' → maR c C' q cy (nI 0) oh op i1 i2 (nI 2064) .null 0 0 .null 0 D m o tk → fM C C' → C' 116 = C 116 → K M') : ∃ (b67 : Value) (b68 : Value) (b69 : Value) (b70 : Value) (b71 : Value) (b72 : Value) (b73 : Value) (b74 : Value) (b75 : Value) (b76 : Value) (c77 : Int32) (c78 : Int32) (c79 : Int32) (c80 : Int32) (c81 : Int32) (c82 : Int32) (c83 : Int32) (c84 : Int32) (c85 : Int32), mal M [((q 110), .inr (6, [b67, b68, b69, b70, b71, b72, b73, b74, .int c81, .int c77, .int c78, .int c79, .int c80, .int c82, b75, .int c83, .int c84, b76, .int c85]))] ∧ mnd (List.map (fun x : Nat × va_E => x.1) [((q 110), .inr (6, [b67, b68, b69, b70, b71, b72, b73, b74, .int c81, .int c77, .int c78, .int c79, .int c80, .int c82, b75, .int c83, .int c84, b76, .int c85]))]) ∧ ∃ (c86 : Int32) (c87 : Int32) (c88 : Int32) (c89 : Int32) (c90 : Int32), x_Ma_spendNothing fu c77 c78 c79 c80 c81 c82 c83 c84 c85 = some (c86, c87, c88, c89, c90) ∧ bnd (mov M [((q 110), .inr (6, [b67, b68, b69, b70, b71, b72, b73, b74, .int c86, .int c77, .int c78, .int c79, .int c80, .int c87, .null, .int c88, .int c89, .null, .int c90]))]) fun M91 => K M91 := by
  have a1 := H.1.1
  refine ⟨_, _, _, _, _, _, _, _, _, _, _, _, _, _, _, _, _, _, _, mal_c (g_at hM (hP 110 (by decide)) a1) (mal_n _), gnd hq [110] (inP hP [110] rfl) (by decide), _, _, _, _, _, rfl, ?_⟩
  have n1 : ∀ {j}, j ≠ 110 → va_up C 110 (maO q (nI 0) oh op i1 i2 (nI 2064) .null 0 0 .null 0) j = C j := fun h => up_n h
  exact g_lf (K := K) hM hq (va_up C 110 (maO q (nI 0) oh op i1 i2 (nI 2064) .null 0 0 .null 0)) [110] (inP hP [110] rfl) (fun k _ hk => n1 (fun e => hk (by rw [e]; decide))) (fun M' hM' => hK M' _ hM' (maR_c H (fun k hk => n1 (by omega)) up_e ((n1 (by decide)).trans H.1.2.1) ((n1 (by decide)).trans H.1.2.2.1) ((n1 (by decide)).trans H.1.2.2.2.1) ((n1 (by decide)).trans H.1.2.2.2.2)) (fun k hk => n1 (by omega)) (n1 (by decide)))
set_option maxHeartbeats 400000 in
/-- the machine alone has worked, and the row is empty -/
theorem kpS_x {F : Type} [Lean.Grind.Field F] [DecidableEq F] {c : Int → F} {cy : Nat → ClassId} {ad : Nat → Nat} {P : Nat → Prop} {q : Nat → Nat} {C : Nat → va_E} {M : Mm} {C' : Nat → va_E} {M' : Mm} {S : Ab} {R : List Int32} {vl : Nat → Bool} {mk : Nat → Nat} {s : Ld} {cb : Nat} (h : kpS c P q C M cy ad S R vl mk s cb) (hM : RG P q C' M') {ck' : Int32} (h103 : C' 103 = kpO q (nI 0) S.2.2.2.2.2.2.2.1 (nI (sBr S.2.2.2.2.2.2.1 S.1)) ck') (hm : mcX c C' q cy) (hF : ∀ j, j = 104 ∨ j = 105 ∨ 120 ≤ j → C' j = C j) : kpS c P q C' M' cy ad S [] vl mk s cb := by
  obtain ⟨⟨-, hS, -, hly, ⟨f, h134⟩, -, hal⟩, ⟨g, h104, hg, hgf⟩, ⟨gi, h105, hgi⟩, h1, h2⟩ := h
  exact ⟨⟨hM, ldM_c hS (fun k hk => hF k (by omega)), ⟨ck', h103⟩, lyX_q hly (fun k a b => ⟨hF k (by omega), rfl⟩), ⟨f, (hF 134 (by decide)).trans h134⟩, hm, alR_c hal (hF 133 (by decide)) (hF 222 (by decide))⟩, ⟨g, (hF 104 (by decide)).trans h104, fun j hj => absurd hj (Nat.not_lt_zero _), hgf⟩, ⟨gi, (hF 105 (by decide)).trans h105, hgi⟩, h1, h2⟩
set_option maxRecDepth 20000 in
set_option maxHeartbeats 8000000 in
theorem w_script {F : Type} [Lean.Grind.Field F] [DecidableEq F] {c : Int → F} (hc : cH pP c) (fu MC MS : Nat) (cy : Nat → ClassId) (ad : Nat → Nat) (mi : Nat) (hfu : 20000 ≤ fu) {P : Nat → Prop} {q : Nat → Nat} {C : Nat → va_E} {M : Mm} {S : Ab} {R : List Int32} {vl : Nat → Bool} {mk : Nat → Nat} {s : Ld} {cb : Nat} (h : kpS c P q C M cy ad S R vl mk s cb) (hR : ftB (lf R) ∧ R.length ≤ 3000) {n : Nat} (hn : scN R n) {κ σ : Nat} (hκ : κ ≤ MC ∧ σ ≤ MS) {Φ : Int32 → Mm → Prop} (hΦ : ∀ v M' C', tf (scrS (fun _ _ => false) hsF (bl (lf R) 0 n) (bl (lf R) n (R.length - n)) = true) v → kpS c P q C' M' cy ad S [] vl mk s cb → (∀ j, 135 ≤ j → C' j = C j) → Φ v M') : xw_mK_script fu MC MS cy ad mi Φ κ σ M (q 103) (nI n) := by
  have h' := h
  obtain ⟨⟨hM, ⟨sl, hS⟩, ⟨ck', hK⟩, -, -, hmc, -⟩, ⟨g, h104, hg, hgf⟩, -⟩ := h'
  obtain ⟨hq, hP, -⟩ := hS.1
  obtain ⟨hn1, hn2, hn3⟩ := hn
  have m103 := g_at hM (hP 103 (by decide)) hK
  obtain ⟨h0, oh, op, i1, i2, fr, ly, tx, inn, co, mit, D, mm, o, tks, se, H, e116, hD, hs⟩ := hmc
  have eRn : R.length = n + (R.length - n) := by omega
  have L1 : ∀ {C' : Nat → va_E} {M' : Mm}, RG P q C' M' → fL C C' → mat M' (q 103) (kpO q (nI R.length) S.2.2.2.2.2.2.2.1 (nI (sBr S.2.2.2.2.2.2.1 S.1)) ck') := fun h g => g_at h (hP 103 (by decide)) ((g 103 (by decide)).trans hK)
  unfold xw_mK_script
  refine m_f (fun z => absurd ((nI_ltI (a := n) (b := 0) (by omega) (by omega)).mp z) (Nat.not_lt_zero _)) (m_gi m103 rfl (m_f (fun z => absurd ((nI_ltI (a := R.length) (b := n) (by omega) (by omega)).mp z) (by omega)) (m_f (fun z => absurd ((nI_ltI (a := 1000) (b := n) (by omega) (by omega)).mp z) (by omega)) (m_gi m103 rfl (m_bn (e' := nI (R.length - n)) (nI_sb hn1) (m_t ((nI_leI (a := R.length - n) (b := 1000) (by omega) (by omega)).mpr hn3) (m_gr m103 rfl (m_gr m103 rfl ?_))))))))
  obtain ⟨n', hn'⟩ : ∃ n', n = 0 + n' := ⟨n, (Nat.zero_add n).symm⟩
  subst hn'
  rw [Nat.zero_add] at hn1 hn2 hn3 hΦ eRn
  refine w_Load hq hP fu hM H e116 (hP 104 (by decide)) (Or.inl rfl) h104 (by decide) (wh := 0) (a := 0) (l := n') (by decide) hn2 (by omega) (fun i _ => hgf _) _ (fun M1 C1 hM1 H1 e1 hF1 => ?_)
  have m103b := L1 hM1 hF1
  rw [eRn] at m103b
  refine m_gr m103b rfl (m_gr m103b rfl (m_gi m103b rfl ?_))
  rw [show n' + (R.length - n') = 0 + n' + (R.length - n') from by omega]
  refine w_Load hq hP fu hM1 H1 e1 (hP 104 (by decide)) (Or.inl rfl) ((hF1 104 (by decide)).trans h104) (by decide) (wh := 1) (a := 0 + n') (l := R.length - n') (by decide) hn3 (by omega) (fun i _ => hgf _) _ (fun M2 C2 hM2 H2 e2 hF2 => ?_)
  rw [Nat.zero_add] at H2
  have hF2' := fL_t hF1 hF2
  have hD2 : ftB (va_cpy g (va_cpy g D 0 (64 + 0 * 1000) n') n' (64 + 1 * 1000) (R.length - n')) := cpy_fB (cpy_fB hD (fun i _ => hgf _)) (fun i _ => hgf _)
  have hs2 : smD (va_cpy g (va_cpy g D 0 (64 + 0 * 1000) n') n' (64 + 1 * 1000) (R.length - n')) := ⟨by rw [pk_cpy_out (by omega), pk_cpy_out (by omega)]; exact hs.1, fun j j1 j2 => by rw [pk_cpy_out (by omega), pk_cpy_out (by omega)]; exact hs.2 j j1 j2⟩
  have sA : bl (va_cpy g (va_cpy g D 0 (64 + 0 * 1000) n') n' (64 + 1 * 1000) (R.length - n')) 64 n' = bl (lf R) 0 n' := bl_c _ _ _ fun i hi => by
    rw [pk_cpy_out (by omega), pk_cpy_in (by omega) (by omega), show 0 + (64 + i - (64 + 0 * 1000)) = 0 + i from by omega]
    exact hg _ (by omega)
  have sB : bl (va_cpy g (va_cpy g D 0 (64 + 0 * 1000) n') n' (64 + 1 * 1000) (R.length - n')) 1064 (R.length - n') = bl (lf R) n' (R.length - n') := bl_c _ _ _ fun i hi => by
    rw [pk_cpy_in (by omega) (by omega), show n' + (1064 + i - (64 + 1 * 1000)) = n' + i from by omega]
    exact hg _ (by omega)
  generalize va_cpy g (va_cpy g D 0 (64 + 0 * 1000) n') n' (64 + 1 * 1000) (R.length - n') = D2 at *
  refine m_gr (L1 hM2 hF2') rfl ?_
  refine w_SpN fu hM2 hq hP H2 _ (fun M3 C3 hM3 H3 hF3 e3 => ?_)
  have hF3' := fL_t hF2' (fL_M hF3)
  have e3' := e3.trans e2
  refine g_pt hM3 hq (hP 103 (by decide)) ((hF3' 103 (by decide)).trans hK) (show 1 < 13 by decide) (fun M4 hM4 => ?_)
  obtain ⟨C4, hC4⟩ : ∃ C4, C4 = va_up C3 103 (kpO q (nI 0) S.2.2.2.2.2.2.2.1 (nI (sBr S.2.2.2.2.2.2.1 S.1)) ck') := ⟨_, rfl⟩
  have hM4' : RG P q C4 M4 := by rw [hC4]; exact hM4
  have n4 : ∀ {j}, j ≠ 103 → C4 j = C3 j := fun h => by rw [hC4]; exact up_n h
  have hK4 : C4 103 = kpO q (nI 0) S.2.2.2.2.2.2.2.1 (nI (sBr S.2.2.2.2.2.2.1 S.1)) ck' := by rw [hC4]; exact up_e
  have H4 := maR_c H3 (C' := C4) (fun k hk => n4 (by omega)) ((n4 (by decide)).trans H3.1.1) ((n4 (by decide)).trans H3.1.2.1) ((n4 (by decide)).trans H3.1.2.2.1) ((n4 (by decide)).trans H3.1.2.2.2.1) ((n4 (by decide)).trans H3.1.2.2.2.2)
  have e4 := (n4 (j := 116) (by decide)).trans e3'
  have m103d := g_at hM4' (hP 103 (by decide)) hK4
  have L4 : ∀ {C' : Nat → va_E} {M' : Mm}, RG P q C' M' → fM C4 C' → mat M' (q 103) (kpO q (nI 0) S.2.2.2.2.2.2.2.1 (nI (sBr S.2.2.2.2.2.2.1 S.1)) ck') := fun h g => g_at h (hP 103 (by decide)) ((g 103 (by decide)).trans hK4)
  have FIN : ∀ (v : Int32) (M' : Mm) (C' : Nat → va_E), RG P q C' M' → fM C4 C' → mcX c C' q cy → tf (scrS (fun _ _ => false) hsF (bl (lf R) 0 n') (bl (lf R) n' (R.length - n')) = true) v → Φ v M' := fun v M' C' hM' hF' hX' hv => by
    have hE : ∀ j, j = 104 ∨ j = 105 ∨ 120 ≤ j → C' j = C j := fun j hj => (hF' j (by omega)).trans ((n4 (by omega)).trans (hF3' j (by omega)))
    exact hΦ v M' C' hv (kpS_x h hM' ((hF' 103 (by decide)).trans hK4) hX' hE) (fun j hj => hE j (by omega))
  refine m_gr m103d rfl (m_ck (g_at hM4' (hP 110 (by decide)) H4.1.1) ⟨0, 0, by omega, ?_⟩)
  have hO4 : oX c P C4 q cy (fun _ _ => false) .null 0 0 .null [] := Or.inl ⟨rfl, fun _ _ => rfl⟩
  refine w_run hc hq hP fu 0 0 hfu ad mi ⟨Nat.le_refl _, Nat.le_refl _⟩ hM4' (S := []) (fr := 2064) (wh := 0) (e := 64 + n') (by decide) H4 trivial (Nat.zero_le _) hD2 hs2 (by decide) (by decide) e4 ?_ (by omega) (by omega) hO4 (Or.inl rfl) ?_
  · show (upd (upd se 0 (nI (64 + 0 * 1000 + n'))) 1 (nI (64 + 1 * 1000 + (R.length - n')))) 0 = nI (64 + n')
    rw [pk_un (by decide), pk_us]
  intro v M5 C5 h5 oh5 op5 i15 i25 fr5 mit5 D5 m5 o5 tk5 hM5 H5 hF5 hD5 hs5 hmt5 hd5 hres
  have e5 := (hF5 116 (by omega)).trans e4
  have hX5 : mcX c C5 q cy := ⟨h5, oh5, op5, i15, i25, fr5, _, _, _, _, mit5, D5, m5, o5, tk5, _, H5, e5, hD5, hs5⟩
  have e1s : bl D2 (64 + 0 * 1000) (64 + n' - (64 + 0 * 1000)) = bl (lf R) 0 n' := by
    rw [show 64 + n' - (64 + 0 * 1000) = n' from by omega]
    exact sA
  rw [e1s] at hres
  rcases hres with ⟨r1, r2⟩ | ⟨S', fr2, r1, r2, r3, r4, r5, r6, r7, r8⟩
  · subst r2
    refine m_t rfl (FIN 0 M5 C5 hM5 hF5 hX5 (tf_0 ?_))
    unfold scrS
    rw [r1]
    show ¬ false = true
    decide
  subst r2 r3 r4
  refine m_f (by decide) (m_gr (L4 hM5 hF5) rfl (m_ck (g_at hM5 (hP 110 (by decide)) H5.1.1) ⟨0, 0, by omega, ?_⟩))
  refine w_run hc hq hP fu 0 0 hfu ad mi ⟨Nat.le_refl _, Nat.le_refl _⟩ hM5 (S := S') (fr := fr2) (wh := 1) (e := 1064 + (R.length - n')) (by decide) H5 r7 r8 hD5 hs5 r5 (by omega) e5 ?_ (by omega) (by omega) (oX_c hO4 hF5) hmt5 ?_
  · show (upd (upd se 0 (nI (64 + 0 * 1000 + n'))) 1 (nI (64 + 1 * 1000 + (R.length - n')))) 1 = nI (1064 + (R.length - n'))
    rw [pk_us]
  intro v M6 C6 h6 oh6 op6 i16 i26 fr6 mit6 D6 m6 o6 tk6 hM6 H6 hF6 hD6 hs6 hmt6 hd6 hres
  have hF6' := fM_t hF5 hF6
  have e6 := (hF6 116 (by omega)).trans e5
  have hX6 : mcX c C6 q cy := ⟨h6, oh6, op6, i16, i26, fr6, _, _, _, _, mit6, D6, m6, o6, tk6, _, H6, e6, hD6, hs6⟩
  have e2s : bl D5 (64 + 1 * 1000) (1064 + (R.length - n') - (64 + 1 * 1000)) = bl (lf R) n' (R.length - n') := by
    rw [show 1064 + (R.length - n') - (64 + 1 * 1000) = R.length - n' from by omega, ← sB]
    exact bl_c _ _ _ fun i hi => hd5 _ (by omega) (by omega)
  rw [e2s] at hres
  have hscr : scrS (fun _ _ => false) hsF (bl (lf R) 0 n') (bl (lf R) n' (R.length - n')) = (match rnS (fun _ _ => false) hsF 1001 (bl (lf R) n' (R.length - n')) S' [] 0 [] with
      | some (x :: _) => truB x
      | _ => false) := by
    unfold scrS
    rw [r1]
    rfl
  rcases hres with ⟨s1, s2⟩ | ⟨S2, fr3, s1, s2, s3, s4, s5, s6, s7, s8⟩
  · subst s2
    refine m_t rfl (FIN 0 M6 C6 hM6 hF6' hX6 (tf_0 ?_))
    rw [hscr, s1]
    show ¬ false = true
    decide
  subst s2 s3 s4
  have hfin : scrS (fun _ _ => false) hsF (bl (lf R) 0 n') (bl (lf R) n' (R.length - n')) = tpT S2 := by
    rw [hscr, s1]
    cases S2 <;> rfl
  refine m_f (by decide) (m_gr (L4 hM6 hF6') rfl ?_)
  refine w_Ends hq hP fu (by omega) hM6 hD6 (by omega) s7 (by omega) H6 _ (fun v M7 C7 hM7 H7 hF7 e7 hv => ?_)
  have hF7' := fM_t hF6' hF7
  have hX7 : mcX c C7 q cy := ⟨_, oh6, op6, i16, i26, _, _, _, _, _, mit6, D6, m6, o6, tk6, _, H7, e7.trans e6, hD6, hs6⟩
  rw [← hfin] at hv
  rcases hv with ⟨z, e⟩ | ⟨z, e⟩
  · subst e
    exact m_f (by decide) (FIN 1 M7 C7 hM7 hF7' hX7 (tf_1 z))
  · subst e
    exact m_t rfl (FIN 0 M7 C7 hM7 hF7' hX7 (tf_0 z))
set_option maxHeartbeats 400000 in
theorem sgC_n {q : Nat → Nat} {cy : Nat → ClassId} {n n' : Nat} {R : Nat → Nat → Option Nat} {L : Nat → Nat → Int64} {B : Nat → Nat → Int32} {k : Nat} (hk : k ≠ 102) : sgC q cy n R L B k = sgC q cy n' R L B k := by
  unfold sgC
  rw [if_neg hk, if_neg hk]
set_option maxHeartbeats 400000 in
theorem sgC_102 {q : Nat → Nat} {cy : Nat → ClassId} {n : Nat} {R : Nat → Nat → Option Nat} {L : Nat → Nat → Int64} {B : Nat → Nat → Int32} : sgC q cy n R L B 102 = .inl (cy 0, n, .inl (B 102)) := by
  unfold sgC
  simp only [show ¬ (102 = 0) by decide, show ¬ (102 = 1) by decide, show ¬ (102 = 2) by decide, show ¬ (102 = 3) by decide, show ¬ (102 = 4) by decide, show ¬ (102 = 5) by decide, show ¬ (102 < 8) by decide, if_false, if_true]
def iRow (k : Nat) : Nat := if k = 102 then 104 else k
set_option maxHeartbeats 400000 in
theorem iRow_n {k : Nat} (h : k ≠ 102) : iRow k = k := if_neg h
set_option maxHeartbeats 4000000 in
theorem w_signed {F : Type} [Lean.Grind.Field F] [DecidableEq F] {c : Int → F} (hc : cH pP c) (fu MC MS : Nat) (cy : Nat → ClassId) (ad : Nat → Nat) (mi : Nat) (hfu : 20000 ≤ fu) {P : Nat → Prop} {q : Nat → Nat} {C : Nat → va_E} {M : Mm} {S : Ab} {R : List Int32} {vl : Nat → Bool} {mk : Nat → Nat} {s : Ld} {cb : Nat} (h : kpS c P q C M cy ad S R vl mk s cb) (hR : ftB (lf R) ∧ R.length ≤ 3000) {n : Nat} (hn : sdN R n) {κ σ : Nat} (hκ : κ ≤ MC ∧ σ ≤ MS) {Φ : Int32 → Mm → Prop} (hΦ : ∀ v M' C', tf (sgO c (beN (lf R) 0 32) (bl (lf R) 32 n) (bl (lf R) (32 + n) (R.length - 32 - n))) v → kpS c P q C' M' cy ad S R vl mk s cb → (∀ j, 135 ≤ j → C' j = C j) → Φ v M') : xw_mK_signed fu MC MS cy ad mi Φ κ σ M (q 103) (nI n) := by
  have h' := h
  obtain ⟨⟨hM, ⟨sl, hS⟩, ⟨ck', hK⟩, -, -, hmc, -⟩, ⟨g, h104, hg, hgf⟩, -⟩ := h'
  obtain ⟨hq, hP, -⟩ := hS.1
  obtain ⟨hn1, hn2, hn3⟩ := hn
  have m103 := g_at hM (hP 103 (by decide)) hK
  obtain ⟨h0, oh, op, i1, i2, fr, ly, tx, inn, co, mit, D, mm, o, tks, se, H, e116, hD, hs⟩ := hmc
  have H' := H
  obtain ⟨⟨a1, a2, a3, a4, a5⟩, -, -, R0, L, B, v1, v2, v3⟩ := H
  unfold xw_mK_signed
  refine m_f (fun z => absurd ((nI_ltI (a := n) (b := 0) (by omega) (by omega)).mp z) (Nat.not_lt_zero _)) (m_f (fun z => absurd ((nI_ltI (a := 100) (b := n) (by omega) (by omega)).mp z) (by omega)) (m_gi m103 rfl (m_bn (e' := nI (32 + n)) (nI_add 32 n) ?_)))
  rw [show nI (32 + n) + 1 = nI (32 + n + 1) from nI_add _ 1]
  refine m_f (fun z => absurd ((nI_ltI (a := R.length) (b := 32 + n + 1) (by omega) (by omega)).mp z) (by omega)) (m_gi m103 rfl (m_bn (e' := nI (32 + n)) (nI_add 32 n) ?_))
  rw [show nI (32 + n) + 80 = nI (32 + n + 80) from nI_add _ 80]
  refine m_t ((nI_leI (a := R.length) (b := 32 + n + 80) (by omega) (by omega)).mpr hn3) (m_gr m103 rfl (m_gr m103 rfl (m_bn (e' := nI (32 + n)) (nI_add 32 n) (m_gi m103 rfl (m_bn (e' := nI (R.length - 32)) (nI_sb (a := R.length) (b := 32) (by omega)) (m_bn (e' := nI (R.length - 32 - n)) (nI_sb (by omega)) ?_))))))
  have c0 : C 0 = sgC q cy 14928 R0 L B 0 := v1 0 (by decide)
  refine m_ck (g_at hM (hP 0 (by decide)) c0) ⟨0, 0, by omega, ?_⟩
  have hi0 : ∀ k, k < 103 ∧ k ≠ 29 → P (iRow k) := fun k hk => by
    by_cases e : k = 102
    · rw [e]; exact hP 104 (by decide)
    · rw [iRow_n e]; exact hP k (by omega)
  have qi : ∀ j, j < 102 ∧ j ≠ 29 → (fun k => q (iRow k)) j = q j := fun j hj => by
    show q (iRow j) = q j
    rw [iRow_n (by omega)]
  have hcell : ∀ k, k < 103 ∧ k ≠ 29 → C (iRow k) = sgC (fun k => q (iRow k)) cy 3000 R0 L (va_up B 102 g) k := fun k hk => by
    by_cases e : k = 102
    · subst e
      rw [sgC_102, up_e]
      exact h104
    · rw [iRow_n e, v1 k (by omega), sgC_q qi (by omega), sgC_n (n' := 3000) e, sgC_c rfl (up_n e)]
  have key := v_verify hc fu (by omega) 0 0 cy ad mi (fun k => q (iRow k)) (fun i j hi hj e => ?_) 3000 R0 (sgQ_q qi v2) 0 0 (by decide) (va_up B 102 g) L M (fun v16 M15 => gdP (isb v16) <| Φ v16 M15) (z := 0) (a := 32) (n := n) (b := 32 + n) (m := R.length - 32 - n) (by decide) (by omega) (by omega) (fun i _ => ?_) ⟨Nat.le_refl _, Nat.le_refl _⟩ (fun k hk => by rw [← hcell k hk]; exact hM _ (hi0 k hk)) (gI_c v3 (fun _ _ _ => rfl) (fun k hk => up_n (by omega))) (fun v L' B' M' w1 w2 w3 w4 w5 => ?_)
  · exact key
  · have := hq _ _ (hi0 i hi) (hi0 j hj) e
    by_cases e1 : i = 102
    · by_cases e2 : j = 102
      · rw [e1, e2]
      · rw [e1, iRow_n e2] at this
        replace this : 104 = j := this
        omega
    · by_cases e2 : j = 102
      · rw [e2, iRow_n e1] at this
        replace this : i = 104 := this
        omega
      · rw [iRow_n e1, iRow_n e2] at this
        exact this
  · rw [up_e]
    have := fit_I (hgf i)
    exact ⟨this.1, by omega⟩
  · rw [up_e] at w4 w5
    obtain ⟨C1, hC1⟩ : ∃ C1 : Nat → va_E, C1 = fun k => if k < 102 ∧ k ≠ 29 then sgC q cy 14928 R0 L' B' k else C k := ⟨_, rfl⟩
    have lo : ∀ k, k < 102 ∧ k ≠ 29 → C1 k = sgC q cy 14928 R0 L' B' k := fun k hk => by rw [hC1]; exact if_pos hk
    have hi : ∀ k, (102 ≤ k ∨ k = 29) → C1 k = C k := fun k hk => by rw [hC1]; exact if_neg (by omega)
    have hM1 : RG P q C1 M' := by
      refine RG_back (n := 103) hM hq iRow hi0 w1 w2 (fun k hk => ?_) (fun j _ hj => ?_)
      · by_cases e : k = 102
        · subst e
          rw [sgC_102, w4]
          exact (hi 104 (by decide)).trans h104
        · rw [iRow_n e, lo k (by omega), sgC_q qi (by omega), sgC_n (n' := 3000) e]
      · by_cases y : j < 102 ∧ j ≠ 29
        · exact absurd (iRow_n (by omega)).symm (hj j (by omega))
        · exact hi j (by omega)
    have hX1 : mcX c C1 q cy := by
      obtain ⟨-, ⟨fl, ln, st, w, ck, s1, s2, s3, s4⟩, ⟨r0, r1, r2, r3, r4, t1, t2, t3, t4⟩, -⟩ := H'
      exact ⟨h0, oh, op, i1, i2, fr, ly, tx, inn, co, mit, D, mm, o, tks, se, ⟨⟨(hi 110 (by decide)).trans a1, (hi 102 (by decide)).trans a2, (hi 117 (by decide)).trans a3, (hi 118 (by decide)).trans a4, (hi 119 (by decide)).trans a5⟩, ⟨fl, ln, st, w, ck, (hi 106 (by decide)).trans s1, (hi 107 (by decide)).trans s2, (hi 108 (by decide)).trans s3, (hi 109 (by decide)).trans s4⟩, ⟨(hi 111 (by decide)).trans r0, r1, r2, r3, r4, (hi 112 (by decide)).trans t1, (hi 113 (by decide)).trans t2, (hi 114 (by decide)).trans t3, (hi 115 (by decide)).trans t4⟩, R0, L', B', lo, v2, w3⟩, (hi 116 (by decide)).trans e116, hD, hs⟩
    have hT : tf (sgO c (beN (lf R) 0 32) (bl (lf R) 32 n) (bl (lf R) (32 + n) (R.length - 32 - n))) v := by
      have e1 : beN g 0 32 = beN (lf R) 0 32 := beN_c 32 (fun j hj => hg _ (by omega))
      have e2 : bl g 32 n = bl (lf R) 32 n := bl_c _ _ _ fun j hj => hg _ (by omega)
      have e3 : bl g (32 + n) (R.length - 32 - n) = bl (lf R) (32 + n) (R.length - 32 - n) := bl_c _ _ _ fun j hj => hg _ (by omega)
      have i := sgO_i c (beN g 0 32) g (a := 32) (n := n) (b := 32 + n) (m := R.length - 32 - n)
      rw [← e1, ← e2, ← e3]
      rcases w5 with ⟨rfl, w5⟩ | ⟨rfl, w5⟩
      · exact tf_1 (i.mp w5)
      · exact tf_0 (fun e => w5 (i.mpr e))
    refine ⟨tf_isb hT, hΦ v M' C1 hT ?_ (fun j hj => hi j (by omega))⟩
    obtain ⟨⟨-, hS0, -, hly, ⟨f, h134⟩, -, hal⟩, -, ⟨gi, h105, hgi⟩, x1, x2⟩ := h
    exact ⟨⟨hM1, ldM_c hS0 (fun k hk => hi k (by omega)), ⟨ck', (hi 103 (by decide)).trans hK⟩, lyX_q hly (fun k a b => ⟨hi k (by omega), rfl⟩), ⟨f, (hi 134 (by decide)).trans h134⟩, hX1, alR_c hal (hi 133 (by decide)) (hi 222 (by decide))⟩, ⟨g, (hi 104 (by decide)).trans h104, hg, hgf⟩, ⟨gi, (hi 105 (by decide)).trans h105, hgi⟩, x1, x2⟩
