-- the class's machine in the memory: one signature
def msX (P : Nat → Prop) (C : Nat → va_E) (q : Nat → Nat) (cy : Nat → ClassId) (co : Value) (tx inn : Int32) (Z : List Int32) : Prop := ∃ (kr kc kb kr2 n n2 : Nat) (g g2 u3 u4 u6 u8 : Nat → Int32) (ca se t i0 k : Nat) (T : Tx5) (sc : List Int32) (b : Nat), (co = .ref (q kc) ∧ tx = nI t ∧ inn = nI (i0 + k)) ∧ mxR P C q cy kr kc kb kr2 n n2 g g2 u3 u4 u6 u8 ca se ∧ lmE u3 u4 u6 u8 T t i0 ∧ (k < 200 ∧ n < 2 ^ 30 ∧ n2 < 2 ^ 30 ∧ T.2.2.2.2 ≤ n ∧ T.2.2.2.2 ≤ 3000 ∧ T.2.2.1 ≤ T.2.2.2.2 ∧ ca ≤ se ∧ se ≤ n2 ∧ se ≤ 3000) ∧ (∀ j, fits .byte (.int (g j)) = true) ∧ (∀ j, fits .byte (.int (g2 j)) = true) ∧ bl g2 ca (se - ca) = cbL sc.length ++ sc ∧ bl g (T.1 + 4) (b - (T.1 + 4)) = cbL T.2.1.length ∧ T.1 + 4 ≤ b ∧ cgI b T.2.1 T.2.2.1 ∧ Z = msG g sc k T
set_option maxHeartbeats 2000000 in
theorem msX_c {P : Nat → Prop} {C C' : Nat → va_E} {q : Nat → Nat} {cy : Nat → ClassId} {co : Value} {tx inn : Int32} {Z : List Int32} (h : msX P C q cy co tx inn Z) (e : ∀ k, 120 ≤ k → C' k = C k) : msX P C' q cy co tx inn Z := by
  obtain ⟨kr, kc, kb, kr2, n, n2, g, g2, u3, u4, u6, u8, ca, se, t, i0, k, T, sc, b, h1, h2, h3⟩ := h
  exact ⟨kr, kc, kb, kr2, n, n2, g, g2, u3, u4, u6, u8, ca, se, t, i0, k, T, sc, b, h1, mxR_c h2 e, h3⟩
def riR (C : Nat → va_E) (q : Nat → Nat) (cy : Nat → ClassId) : Prop := C 111 = .inr (8, [.ref (q 112), .ref (q 113), .ref (q 114), .ref (q 115)]) ∧ ∃ r1 r2 r3 r4, C 112 = .inl (cy 1, 5, .inl r1) ∧ C 113 = .inl (cy 1, 5, .inl r2) ∧ C 114 = .inl (cy 1, 5, .inl r3) ∧ C 115 = .inl (cy 1, 16, .inl r4)
def sgG {F : Type} [Lean.Grind.Field F] [DecidableEq F] (c : Int → F) (C : Nat → va_E) (q : Nat → Nat) (cy : Nat → ClassId) : Prop := ∃ R L B, (∀ k, k < 102 ∧ k ≠ 29 → C k = sgC q cy 14928 R L B k) ∧ sgQ q R ∧ gI c L B
/-- the machine, and what it works with -/
def maR {F : Type} [Lean.Grind.Field F] [DecidableEq F] (c : Int → F) (C : Nat → va_E) (q : Nat → Nat) (cy : Nat → ClassId) (h oh op i1 i2 fr : Int32) (ly : Value) (tx inn : Int32) (co : Value) (mit : Int32) (D m o tk : Nat → Int32) : Prop := (C 110 = maO q h oh op i1 i2 fr ly tx inn co mit ∧ C 102 = .inl (cy 0, 14928, .inl D) ∧ C 117 = .inl (cy 1, 204, .inl m) ∧ C 118 = .inl (cy 1, 204, .inl o) ∧ C 119 = .inl (cy 3, 202, .inl tk)) ∧ (∃ fl ln st w ck, shR C q cy fl ln st w ck) ∧ riR C q cy ∧ sgG c C q cy
set_option maxHeartbeats 2000000 in
theorem maR_c {F : Type} [Lean.Grind.Field F] [DecidableEq F] {c : Int → F} {C C' : Nat → va_E} {q : Nat → Nat} {cy : Nat → ClassId} {h oh op i1 i2 fr : Int32} {ly : Value} {tx inn : Int32} {co : Value} {mit : Int32} {D m o tk : Nat → Int32} (H : maR c C q cy h oh op i1 i2 fr ly tx inn co mit D m o tk) {h' oh' op' i1' i2' fr' : Int32} {ly' : Value} {tx' inn' : Int32} {co' : Value} {mit' : Int32} {D' m' o' tk' : Nat → Int32} (e : ∀ k, (k < 102 ∧ k ≠ 29) ∨ (106 ≤ k ∧ k ≤ 109) ∨ (111 ≤ k ∧ k ≤ 115) → C' k = C k) (e1 : C' 110 = maO q h' oh' op' i1' i2' fr' ly' tx' inn' co' mit') (e2 : C' 102 = .inl (cy 0, 14928, .inl D')) (e3 : C' 117 = .inl (cy 1, 204, .inl m')) (e4 : C' 118 = .inl (cy 1, 204, .inl o')) (e5 : C' 119 = .inl (cy 3, 202, .inl tk')) : maR c C' q cy h' oh' op' i1' i2' fr' ly' tx' inn' co' mit' D' m' o' tk' := by
  obtain ⟨-, ⟨fl, ln, st, w, ck, s1, s2, s3, s4⟩, ⟨r0, r1, r2, r3, r4, t1, t2, t3, t4⟩, R, L, B, g1, g2, g3⟩ := H
  refine ⟨⟨e1, e2, e3, e4, e5⟩, ⟨fl, ln, st, w, ck, ?_, ?_, ?_, ?_⟩, ⟨?_, r1, r2, r3, r4, ?_, ?_, ?_, ?_⟩, R, L, B, fun k hk => ?_, g2, g3⟩
  · rw [e 106 (by decide)]; exact s1
  · rw [e 107 (by decide)]; exact s2
  · rw [e 108 (by decide)]; exact s3
  · rw [e 109 (by decide)]; exact s4
  · rw [e 111 (by decide)]; exact r0
  · rw [e 112 (by decide)]; exact t1
  · rw [e 113 (by decide)]; exact t2
  · rw [e 114 (by decide)]; exact t3
  · rw [e 115 (by decide)]; exact t4
  · rw [e k (by omega)]; exact g1 k hk
/-- what the machine leaves as it was -/
def fM (C C' : Nat → va_E) : Prop := ∀ k, (103 ≤ k ∧ k ≤ 105) ∨ k = 116 ∨ 120 ≤ k → C' k = C k
set_option maxHeartbeats 2000000 in
theorem fM_t {C C1 C2 : Nat → va_E} (h1 : fM C C1) (h2 : fM C1 C2) : fM C C2 := fun k hk => (h2 k hk).trans (h1 k hk)
set_option maxHeartbeats 2000000 in
theorem fM_r (C : Nat → va_E) : fM C C := fun _ _ => rfl
/-- the oracle of signatures is the document's -/
def oX {F : Type} [Lean.Grind.Field F] [DecidableEq F] (c : Int → F) (P : Nat → Prop) (C : Nat → va_E) (q : Nat → Nat) (cy : Nat → ClassId) (sg : List Int32 → List Int32 → Bool) (ly : Value) (tx inn : Int32) (co : Value) (Z : List Int32) : Prop := (ly = .null ∧ ∀ K G, sg K G = false) ∨ (ly = .ref (q 120) ∧ msX P C q cy co tx inn Z ∧ ∀ K G, sg K G = true ↔ sgO c (hN Z) K G)
set_option maxHeartbeats 2000000 in
theorem oX_c {F : Type} [Lean.Grind.Field F] [DecidableEq F] {c : Int → F} {P : Nat → Prop} {C C' : Nat → va_E} {q : Nat → Nat} {cy : Nat → ClassId} {sg : List Int32 → List Int32 → Bool} {ly : Value} {tx inn : Int32} {co : Value} {Z : List Int32} (h : oX c P C q cy sg ly tx inn co Z) (e : fM C C') : oX c P C' q cy sg ly tx inn co Z := by
  rcases h with h | ⟨h1, h2, h3⟩
  · exact Or.inl h
  · exact Or.inr ⟨h1, msX_c h2 (fun k hk => e k (by omega)), h3⟩
/-- is the message there -/
def mtX (mit : Int32) (D : Nat → Int32) (Z : List Int32) : Prop := mit = 0 ∨ (mit = 1 ∧ ∀ j, j < 32 → D j = dbl (lf Z) Z.length j)
set_option maxHeartbeats 2000000 in
theorem w_has {F : Type} [Lean.Grind.Field F] [DecidableEq F] {c : Int → F} {P : Nat → Prop} {q : Nat → Nat} {cy : Nat → ClassId} (hq : IJ P q) (hP : ∀ k, k < 138 ∧ k ≠ 29 ∧ k ≠ 137 ∧ k ≠ 135 → P k) (fu MC MS : Nat) (hfu : 20000 ≤ fu) (ad : Nat → Nat) (mi : Nat) {Φ : Int32 → Mm → Prop} (κ σ : Nat) (hκ : κ ≤ MC ∧ σ ≤ MS) {C : Nat → va_E} {M : Mm} (hM : RG P q C M) {h oh op i1 i2 fr : Int32} {ly : Value} {tx inn : Int32} {co : Value} {mit : Int32} {D m o tk : Nat → Int32} (H : maR c C q cy h oh op i1 i2 fr ly tx inn co mit D m o tk) {sg : List Int32 → List Int32 → Bool} {Z : List Int32} (hO : oX c P C q cy sg ly tx inn co Z) (hm : mtX mit D Z) (hD : ftB D) (h0 : (∀ K G, sg K G = false) → Φ 0 M) (h1 : ∀ M' C' D', RG P q C' M' → maR c C' q cy h oh op i1 i2 fr ly tx inn co 1 D' m o tk → fM C C' → (∀ j, j < 32 → D' j = dbl (lf Z) Z.length j) → (∀ j, 32 ≤ j → D' j = D j) → ftB D' → (∀ K G, sg K G = true ↔ sgO c (hN Z) K G) → Φ 1 M') : xw_mMa_hasMessage fu MC MS cy ad mi Φ κ σ M (q 110) := by
  have H' := H
  obtain ⟨⟨a1, a2, a3, a4, a5⟩, ⟨fl, ln, st, w, ck, hs⟩, hr, hg⟩ := H
  have g110 := g_at hM (hP 110 (by decide)) a1
  unfold xw_mMa_hasMessage
  rcases hO with ⟨o1, o2⟩ | ⟨o1, o2, o3⟩
  · subst o1
    exact m_gn g110 rfl (h0 o2)
  · subst o1
    have o2' := o2
    obtain ⟨kr, kc, kb, kr2, n, n2, g, g2, u3, u4, u6, u8, ca, se, t, i0, k, T, sc, b, ⟨x1, x2, x3⟩, x4, x5, ⟨y1, y2, y3, y4, y5, y6, y7, y8, y9⟩, x6, x7, x8, x9, x10, x11, x12⟩ := o2
    subst x1 x2 x3
    refine m_grp g110 rfl (m_grp g110 rfl (m_gi g110 rfl ?_))
    rcases hm with hm | ⟨hm, hm2⟩
    · subst hm
      refine m_t rfl (m_ck g110 ⟨0, 0, by omega, ?_⟩)
      unfold xw_mMa_writeMessage
      have x4' := x4
      obtain ⟨-, ⟨txs, z1, z2, z3, z4, e120⟩, ekr, e121, e122, -⟩ := x4
      have g120 := g_at hM (hP 120 (by decide)) e120
      refine m_grp g110 rfl (m_grp g120 rfl (m_grp g110 rfl (m_gr g120 rfl (m_gi g110 rfl (m_ai (g_at hM (hP 121 (by decide)) e121) (inb_nI (by have := x5.2.2.2.2.2.1; omega) (by decide)) ?_)))))
      rw [nI_clamp (n := t) (by have := x5.2.2.2.2.2.1; omega), x5.1]
      refine m_gr g110 rfl ?_
      refine w_ShBegin hM hq hP hs fu (lf ([] ++ ctx g sc k T.2.2.2.2 T.1 T.2.1 0)) _ (fun f1 l1 s1 M1 hM1 hi1 => ?_)
      have n1 : ∀ k, k < 106 ∨ 109 < k → shU C q cy f1 l1 s1 w ck k = C k := fun k hk => shU_n hk
      have r1 := shU_r C q cy f1 l1 s1 w ck
      generalize shU C q cy f1 l1 s1 w ck = C1 at *
      have b110 := (n1 110 (by decide)).trans a1
      refine m_grp (g_at hM1 (hP 110 (by decide)) b110) rfl (m_gr (g_at hM1 (hP 120 (by decide)) ((n1 120 (by decide)).trans e120)) rfl (m_gi (g_at hM1 (hP 110 (by decide)) b110) rfl (m_ai (g_at hM1 (hP 122 (by decide)) ((n1 122 (by decide)).trans e122)) (inb_nI (by have := x5.2.2.2.2.2.1; omega) (by decide)) ?_)))
      rw [nI_clamp (n := t) (by have := x5.2.2.2.2.2.1; omega), x5.2.2.1, show nI i0 = nI (i0 + 0) from rfl]
      have hl73 := x5.2.2.2.2.2.2
      refine w_wm41 hq hP fu 0 0 hfu ad mi 0 0 x5 y1 y2 x6 y3 x7 hD y4 y5 y6 x8 y7 y8 y9 T.2.1 0 T.1 b [] fu C1 M1 f1 l1 s1 w ck hM1 b110 (mxR_c x4' (fun k hk => n1 k (by omega))) r1 ((n1 102 (by decide)).trans a2) rfl (Nat.zero_add _) (by omega) (by omega) x11 (by rw [List.length_nil]; omega) hi1 (fun M' C' D' fl' ln' st' w' ck' q1 q2 q3 q4 q5 => ?_)
      have c110 := (q2 110 (by decide) (by decide)).trans b110
      refine g_pt q1 hq (hP 110 (by decide)) c110 (show 18 < 19 by decide) (fun M2 hM2 => ?_)
      rw [List.nil_append, ctx_m g sc k T x9 x10 x11 y6, ← x12] at q5
      have q6 : ∀ k, k ≠ 102 → k < 106 ∨ 109 < k → C' k = C k := fun k k1 k2 => (q2 k k1 k2).trans (n1 k k2)
      refine h1 M2 _ D' hM2 ⟨⟨up_e, ?_, ?_, ?_, ?_⟩, ⟨fl', ln', st', w', ck', ?_⟩, ?_, ?_⟩ (fun k hk => ?_) (fun j hj => ?_) (fun j hj => ?_) (fun j => ?_) o3
      · rw [up_n (by decide)]; exact q4
      · rw [up_n (by decide), q6 117 (by decide) (by decide)]; exact a3
      · rw [up_n (by decide), q6 118 (by decide) (by decide)]; exact a4
      · rw [up_n (by decide), q6 119 (by decide) (by decide)]; exact a5
      · obtain ⟨r1, r2, r3, r4⟩ := q3
        exact ⟨by rw [up_n (by decide)]; exact r1, by rw [up_n (by decide)]; exact r2, by rw [up_n (by decide)]; exact r3, by rw [up_n (by decide)]; exact r4⟩
      · obtain ⟨t0, r1, r2, r3, r4, t1, t2, t3, t4⟩ := hr
        refine ⟨?_, r1, r2, r3, r4, ?_, ?_, ?_, ?_⟩
        · rw [up_n (by decide), q6 111 (by decide) (by decide)]; exact t0
        · rw [up_n (by decide), q6 112 (by decide) (by decide)]; exact t1
        · rw [up_n (by decide), q6 113 (by decide) (by decide)]; exact t2
        · rw [up_n (by decide), q6 114 (by decide) (by decide)]; exact t3
        · rw [up_n (by decide), q6 115 (by decide) (by decide)]; exact t4
      · obtain ⟨R, L, B, v1, v2, v3⟩ := hg
        exact ⟨R, L, B, fun k hk => by rw [up_n (by omega), q6 k (by omega) (by omega)]; exact v1 k hk, v2, v3⟩
      · rw [up_n (by omega), q6 k (by omega) (by omega)]
      · rw [q5 j, if_pos hj]
      · rw [q5 j, if_neg (by omega)]
      · rw [q5 j]
        split
        · exact dbl_f _ _ _
        · exact hD j
    · subst hm
      exact m_f (by decide) (h1 M C D hM H' (fM_r C) hm2 (fun _ _ => rfl) hD o3)
