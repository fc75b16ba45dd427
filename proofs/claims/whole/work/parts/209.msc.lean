-- the class's machine in the memory: scripts are loaded and run
set_option maxHeartbeats 2000000 in
theorem w_run {F : Type} [Lean.Grind.Field F] [DecidableEq F] {c : Int → F} (hc : cH pP c) {P : Nat → Prop} {q : Nat → Nat} {cy : Nat → ClassId} (hq : IJ P q) (hP : ∀ k, k < 138 ∧ k ≠ 29 ∧ k ≠ 137 ∧ k ≠ 135 → P k) (fu MC MS : Nat) (hfu : 20000 ≤ fu) (ad : Nat → Nat) (mi : Nat) {Φ : Int32 → Mm → Prop} {κ σ : Nat} (hκ : κ ≤ MC ∧ σ ≤ MS) {C : Nat → va_E} {M : Mm} (hM : RG P q C M) {ly : Value} {tx inn : Int32} {co : Value} {oh op i1 i2 mit : Int32} {D m o tk se : Nat → Int32} {S : Stk} {fr wh e : Nat} (hwh : wh < 2) (H : maR c C q cy (nI S.length) oh op i1 i2 (nI fr) ly tx inn co mit D m o tk) (hS : stH D fr m S) (hl : S.length ≤ 200) (hD : ftB D) (hs : smD D) (hfr : 2064 ≤ fr) (hfr2 : fr + 32 * 201 ≤ 14928) (e116 : C 116 = .inl (cy 1, 2, .inl se)) (hse : se wh = nI e) (he : 64 + wh * 1000 ≤ e) (he2 : e ≤ 64 + wh * 1000 + 1000) {sg : List Int32 → List Int32 → Bool} {Z : List Int32} (hX : oX c P C q cy sg ly tx inn co Z) (hm : mtX mit D Z) (hΦ : rnX c P q cy C fr ly tx inn co Z D (rnS sg hsF 1001 (bl D (64 + wh * 1000) (e - (64 + wh * 1000))) S [] 0 []) Φ) : xw_mMa_run fu MC MS cy ad mi Φ κ σ M (q 110) (nI wh) := by
  have a1 := H.1.1
  unfold xw_mMa_run
  refine g_pt hM hq (hP 110 (by decide)) a1 (show 9 < 19 by decide) (fun M1 hM1 => ?_)
  refine g_pt hM1 hq (hP 110 (by decide)) up_e (show 10 < 19 by decide) (fun M2 hM2 => ?_)
  refine g_pt hM2 hq (hP 110 (by decide)) up_e (show 11 < 19 by decide) (fun M3 hM3 => ?_)
  refine g_pt hM3 hq (hP 110 (by decide)) up_e (show 12 < 19 by decide) (fun M4 hM4 => ?_)
  obtain ⟨C4, hC4⟩ : ∃ C4, C4 = va_up C 110 (maO q (nI S.length) (nI 0) (nI 0) (nI 0) (nI 0) (nI fr) ly tx inn co mit) := ⟨_, rfl⟩
  have hM5 : RG P q C4 M4 := RG_c hM4 (fun k _ => by
    rw [hC4]
    by_cases e : k = 110
    · rw [e, up_e, up_e]; rfl
    · rw [up_n e, up_n e, up_n e, up_n e, up_n e])
  have n4 : ∀ k, k ≠ 110 → C4 k = C k := fun k hk => by rw [hC4, up_n hk]
  have H4 : maR c C4 q cy (nI S.length) (nI 0) (nI 0) (nI 0) (nI 0) (nI fr) ly tx inn co mit D m o tk := maR_c H (fun k hk => n4 k (by omega)) (by rw [hC4, up_e]) ((n4 102 (by decide)).trans H.1.2.1) ((n4 117 (by decide)).trans H.1.2.2.1) ((n4 118 (by decide)).trans H.1.2.2.2.1) ((n4 119 (by decide)).trans H.1.2.2.2.2)
  have F4 : fM C C4 := fun k hk => n4 k (by omega)
  refine m_bn (e' := nI (64 + wh * 1000)) (by rw [show (1000 : Int32) = nI 1000 from rfl, pk_mul]; exact nI_add 64 (wh * 1000)) ?_
  refine m_gr (g_at hM5 (hP 110 (by decide)) H4.1.1) rfl (m_ai (g_at hM5 (hP 116 (by decide)) ((n4 116 (by decide)).trans e116)) (inb_nI hwh (by decide)) ?_)
  rw [nI_clamp (n := wh) (by omega), hse]
  exact w_r36 hc hq hP fu MC MS hfu ad mi hfr2 hfr hX (by omega) hκ fu 1001 (64 + wh * 1000) C4 M4 S [] 0 [] fr mit D m o tk (by omega) he (by omega) (by omega) ⟨hM5, H4, hS, trivial, hD, hs, ⟨hfr, by omega, by omega, by show S.length + 0 ≤ 202; omega⟩, ⟨trivial, Nat.le_refl _⟩, hm, F4, fun _ _ _ => rfl⟩ (by show S.length + 0 ≤ 200; omega) hΦ
set_option maxHeartbeats 2000000 in
theorem v_Ma_load (fu : Nat) (j1 j2 j3 j4 j5 j6 j7 j8 j9 : Int32) {n2 : Nat} (hn2 : n2 < 2 ^ 30) {h2 : Nat → Int32} {wh a l : Nat} (hwh : wh < 2) (hl : l ≤ 1000) (ha : a + l ≤ n2) (hf : ∀ i, i < l → fits .byte (.int (h2 (a + i))) = true) (D se : Nat → Int32) : ok (x_Ma_load fu j1 j2 j3 j4 j5 j6 j7 j8 j9 n2 h2 (nI wh) (nI a) (nI (a + l)) D se) (fun x => x.1 = va_cpy h2 D a (64 + wh * 1000) l ∧ x.2 = upd se wh (nI (64 + wh * 1000 + l))) := by
  unfold x_Ma_load
  refine ok_bn (e' := nI (64 + wh * 1000)) (by rw [show (1000 : Int32) = nI 1000 from rfl, pk_mul]; exact nI_add 64 (wh * 1000)) (ok_bn (e' := nI l) (by rw [nI_sb (by omega), Nat.add_sub_cancel_left]) (ok_gd (cpk_nI (by omega) (by omega) (by omega) (by decide)) (ok_gd (bfit_nI (by omega) (by omega) hf) ?_)))
  rw [nI_clamp (n := a) (by omega), nI_clamp (n := 64 + wh * 1000) (by omega), nI_clamp (n := l) (by omega), nI_clamp (n := wh) (by omega)]
  refine ok_bnd (ok_bn (nI_add _ _) (ok_bn (e' := nI (64 + wh * 1000 + l)) ?_ (ok_gd (inb_nI hwh (by decide)) (ok_bnd (ok_some ⟨rfl, rfl⟩)))))
  rw [nI_sb (by omega)]
  congr 1
  omega
def tpT : Stk → Bool
  | x :: _ => truB x
  | [] => false
/-- what a load leaves as it was -/
def fL (C C' : Nat → va_E) : Prop := ∀ k, (103 ≤ k ∧ k ≤ 105) ∨ 120 ≤ k → C' k = C k
set_option maxHeartbeats 2000000 in
theorem fL_t {C C1 C2 : Nat → va_E} (h1 : fL C C1) (h2 : fL C1 C2) : fL C C2 := fun k hk => (h2 k hk).trans (h1 k hk)
set_option maxHeartbeats 2000000 in
theorem fL_M {C C' : Nat → va_E} (h : fM C C') : fL C C' := fun k hk => h k (by omega)
set_option maxHeartbeats 2000000 in
theorem cpy_fB {f g : Nat → Int32} {a b l : Nat} (hg : ftB g) (hf : ∀ i, i < l → fits .byte (.int (f (a + i))) = true) : ftB (va_cpy f g a b l) := fun j => by
  by_cases c : b ≤ j ∧ j < b + l
  · rw [pk_cpy_in c.1 c.2]
    exact hf _ (by omega)
  · rw [pk_cpy_out (by omega)]
    exact hg j
set_option maxHeartbeats 2000000 in
theorem w_Load {F : Type} [Lean.Grind.Field F] [DecidableEq F] {c : Int → F} {P : Nat → Prop} {q : Nat → Nat} {cy : Nat → ClassId} (hq : IJ P q) (hP : ∀ k, k < 138 ∧ k ≠ 29 ∧ k ≠ 137 ∧ k ≠ 135 → P k) (fu : Nat) {C : Nat → va_E} {M : Mm} (hM : RG P q C M) {h oh op i1 i2 fr : Int32} {ly : Value} {tx inn : Int32} {co : Value} {mit : Int32} {D m o tk se : Nat → Int32} (H : maR c C q cy h oh op i1 i2 fr ly tx inn co mit D m o tk) (e116 : C 116 = .inl (cy 1, 2, .inl se)) {ks n2 : Nat} (hks : P ks) (hk2 : ks = 104 ∨ 138 ≤ ks) {h2 : Nat → Int32} (eks : C ks = .inl (cy 0, n2, .inl h2)) (hn2 : n2 < 2 ^ 30) {wh a l : Nat} (hwh : wh < 2) (hl : l ≤ 1000) (ha : a + l ≤ n2) (hf : ∀ i, i < l → fits .byte (.int (h2 (a + i))) = true) (K : Mm → Prop) (hK : ∀ M' C', RG P q C' M' → maR c C' q cy h oh op i1 i2 fr ly tx inn co mit (va_cpy h2 D a (64 + wh * 1000) l) m o tk → C' 116 = .inl (cy 1, 2, .inl (upd se wh (nI (64 + wh * 1000 + l)))) → fL C C' → K M') : ∃ (b92 : Value) (b93 : Value) (b94 : Value) (b95 : Value) (b96 : Value) (b97 : Value) (b98 : Value) (b99 : Value) (b100 : Nat) (b101 : Nat) (c102 : Int32) (c103 : Int32) (c104 : Int32) (c105 : Int32) (c106 : Int32) (c107 : Int32) (c108 : Int32) (c109 : Int32) (c110 : Int32) (c111 : Nat) (c112 : Nat → Int32) (c113 : Nat → Int32) (c114 : Nat → Int32), mal M [((q 110), .inr (6, [b92, b93, b94, .ref b100, .ref b101, b95, b96, b97, .int c102, .int c103, .int c104, .int c105, .int c106, .int c107, b98, .int c108, .int c109, b99, .int c110])), (b100, .inl (cy 0, 14928, .inl c113)), (b101, .inl (cy 1, 2, .inl c114)), ((q ks), .inl (cy 0, c111, .inl c112))] ∧ mnd (List.map (fun x : Nat × va_E => x.1) [((q 110), .inr (6, [b92, b93, b94, .ref b100, .ref b101, b95, b96, b97, .int c102, .int c103, .int c104, .int c105, .int c106, .int c107, b98, .int c108, .int c109, b99, .int c110])), (b100, .inl (cy 0, 14928, .inl c113)), (b101, .inl (cy 1, 2, .inl c114)), ((q ks), .inl (cy 0, c111, .inl c112))]) ∧ ∃ (c115 : Nat → Int32) (c116 : Nat → Int32), x_Ma_load fu c102 c103 c104 c105 c106 c107 c108 c109 c110 c111 c112 (nI wh) (nI a) (nI (a + l)) c113 c114 = some (c115, c116) ∧ bnd (mov M [((q 110), .inr (6, [b92, b93, b94, .ref b100, .ref b101, b95, b96, b97, .int c102, .int c103, .int c104, .int c105, .int c106, .int c107, b98, .int c108, .int c109, b99, .int c110])), (b100, .inl (cy 0, 14928, .inl c115)), (b101, .inl (cy 1, 2, .inl c116)), ((q ks), .inl (cy 0, c111, .inl c112))]) fun M117 => K M117 := by
  have H' := H
  obtain ⟨⟨a1, a2, a3, a4, a5⟩, -⟩ := H
  obtain ⟨⟨D', se'⟩, he, w1, w2⟩ := v_Ma_load fu h oh op i1 i2 fr tx inn mit hn2 hwh hl ha hf D se
  replace w1 : D' = va_cpy h2 D a (64 + wh * 1000) l := w1
  replace w2 : se' = upd se wh (nI (64 + wh * 1000 + l)) := w2
  subst w1 w2
  refine ⟨_, _, _, _, _, _, _, _, _, _, _, _, _, _, _, _, _, _, _, _, _, _, _, mal_c (g_at hM (hP 110 (by decide)) a1) (mal_c (g_at hM (hP 102 (by decide)) a2) (mal_c (g_at hM (hP 116 (by decide)) e116) (mal_c (g_at hM hks eks) (mal_n _)))), ?_, _, _, he, ?_⟩
  · refine gnd hq [110, 102, 116, ks] (fun k hk => ?_) ?_
    · rcases List.mem_cons.mp hk with e | hk
      · exact hP k (by omega)
      rcases List.mem_cons.mp hk with e | hk
      · exact hP k (by omega)
      rcases List.mem_cons.mp hk with e | hk
      · exact hP k (by omega)
      rcases List.mem_cons.mp hk with e | hk
      · rw [e]; exact hks
      · exact absurd hk (by simp)
    · simp only [List.nodup_cons, List.mem_cons, List.not_mem_nil, not_false_eq_true, List.nodup_nil, and_true, or_false]
      omega
  · obtain ⟨C', hC'⟩ : ∃ C', C' = va_up (va_up C 102 (.inl (cy 0, 14928, .inl (va_cpy h2 D a (64 + wh * 1000) l)))) 116 (.inl (cy 1, 2, .inl (upd se wh (nI (64 + wh * 1000 + l))))) := ⟨_, rfl⟩
    have f1 : C' 110 = maO q h oh op i1 i2 fr ly tx inn co mit := by rw [hC', up_n (by decide), up_n (by decide)]; exact a1
    have f2 : C' 102 = .inl (cy 0, 14928, .inl (va_cpy h2 D a (64 + wh * 1000) l)) := by rw [hC', up_n (by decide), up_e]
    have f3 : C' 116 = .inl (cy 1, 2, .inl (upd se wh (nI (64 + wh * 1000 + l)))) := by rw [hC', up_e]
    have f4 : C' ks = .inl (cy 0, n2, .inl h2) := by rw [hC', up_n (by omega), up_n (by omega)]; exact eks
    have n1 : ∀ k, k ≠ 102 → k ≠ 116 → C' k = C k := fun k k1 k2 => by rw [hC', up_n k2, up_n k1]
    have L := g_lf (K := K) hM hq C' [110, 102, 116, ks] (fun k hk => ?_) (fun k _ hk => n1 k (fun e => hk (by rw [e]; simp)) (fun e => hk (by rw [e]; simp))) (fun M' hM' => hK M' C' hM' (maR_c H' (fun k hk => n1 k (by omega) (by omega)) f1 f2 ((n1 117 (by decide) (by decide)).trans a3) ((n1 118 (by decide) (by decide)).trans a4) ((n1 119 (by decide) (by decide)).trans a5)) f3 (fun k hk => n1 k (by omega) (by omega)))
    · rw [show [110, 102, 116, ks].map (fun k => (q k, C' k)) = [(q 110, C' 110), (q 102, C' 102), (q 116, C' 116), (q ks, C' ks)] from rfl, f1, f2, f3, f4] at L
      exact L
    · rcases List.mem_cons.mp hk with e | hk
      · exact hP k (by omega)
      rcases List.mem_cons.mp hk with e | hk
      · exact hP k (by omega)
      rcases List.mem_cons.mp hk with e | hk
      · exact hP k (by omega)
      rcases List.mem_cons.mp hk with e | hk
      · rw [e]; exact hks
      · exact absurd hk (by simp)
set_option maxHeartbeats 2000000 in
theorem w_Ends {F : Type} [Lean.Grind.Field F] [DecidableEq F] {c : Int → F} {P : Nat → Prop} {q : Nat → Nat} {cy : Nat → ClassId} (hq : IJ P q) (hP : ∀ k, k < 138 ∧ k ≠ 29 ∧ k ≠ 137 ∧ k ≠ 135 → P k) (fu : Nat) (hfu : 300 ≤ fu) {C : Nat → va_E} {M : Mm} (hM : RG P q C M) {ly : Value} {tx inn : Int32} {co : Value} {oh op i1 i2 mit : Int32} {D m o tk : Nat → Int32} {S : Stk} {fr : Nat} (hD : ftB D) (hfr : fr ≤ 14928) (hS : stH D fr m S) (hl : S.length ≤ 204) (H : maR c C q cy (nI S.length) oh op i1 i2 (nI fr) ly tx inn co mit D m o tk) (K : Int32 → Mm → Prop) (hK : ∀ v M' C', RG P q C' M' → maR c C' q cy (nI S.length) oh op i1 i2 (nI fr) ly tx inn co mit D m o tk → fM C C' → C' 116 = C 116 → tf (tpT S = true) v → K v M') : ∃ (b173 : Value) (b174 : Value) (b175 : Value) (b176 : Value) (b177 : Value) (b178 : Value) (b179 : Value) (b180 : Value) (b181 : Nat) (b182 : Nat) (c183 : Int32) (c184 : Int32) (c185 : Int32) (c186 : Int32) (c187 : Int32) (c188 : Int32) (c189 : Int32) (c190 : Int32) (c191 : Int32) (c192 : Nat → Int32) (c193 : Nat → Int32), mal M [((q 110), .inr (6, [b173, b174, b175, .ref b181, b176, .ref b182, b177, b178, .int c183, .int c184, .int c185, .int c186, .int c187, .int c188, b179, .int c189, .int c190, b180, .int c191])), (b181, .inl (cy 0, 14928, .inl c192)), (b182, .inl (cy 1, 204, .inl c193))] ∧ mnd (List.map (fun x : Nat × va_E => x.1) [((q 110), .inr (6, [b173, b174, b175, .ref b181, b176, .ref b182, b177, b178, .int c183, .int c184, .int c185, .int c186, .int c187, .int c188, b179, .int c189, .int c190, b180, .int c191])), (b181, .inl (cy 0, 14928, .inl c192)), (b182, .inl (cy 1, 204, .inl c193))]) ∧ ∃ (v194 : Int32), x_Ma_endsTrue fu c183 c184 c185 c186 c187 c188 c189 c190 c191 c192 c193 = some (v194) ∧ bnd (mov M [((q 110), .inr (6, [b173, b174, b175, .ref b181, b176, .ref b182, b177, b178, .int c183, .int c184, .int c185, .int c186, .int c187, .int c188, b179, .int c189, .int c190, b180, .int c191])), (b181, .inl (cy 0, 14928, .inl c192)), (b182, .inl (cy 1, 204, .inl c193))]) fun M195 => K v194 M195 := by
  have H' := H
  obtain ⟨⟨a1, a2, a3, a4, a5⟩, -⟩ := H
  have V : ok (x_Ma_endsTrue fu (nI S.length) oh op i1 i2 (nI fr) tx inn mit D m) (tf (tpT S = true)) := by
    unfold x_Ma_endsTrue
    cases S with
    | nil => exact ok_t (by decide) (ok_some (tf_0 (show ¬ false = true by decide)))
    | cons x S =>
      replace hl : S.length + 1 ≤ 204 := hl
      refine ok_f (fun e => by have := (nI_leI (a := S.length + 1) (b := 0) (by omega) (by omega)).mp e; omega) (ok_bn (e' := nI S.length) (nI_sb (a := S.length + 1) (b := 1) (by omega)) (ok_gd (inb_nI (by omega) (by decide)) ?_))
      rw [nI_clamp (n := S.length) (by omega)]
      exact ok_bnd (ok_bd1 (v_Ma_isTrue fu hfu (nI (S.length + 1)) oh op i1 i2 (nI fr) tx inn mit hD hfr hS.1) (fun v hv => ok_tf hv (fun z => ok_some (tf_0 z)) (fun z => ok_some (tf_1 z))))
  obtain ⟨v, he, hv⟩ := V
  refine ⟨_, _, _, _, _, _, _, _, _, _, _, _, _, _, _, _, _, _, _, _, _, mal_c (g_at hM (hP 110 (by decide)) a1) (mal_c (g_at hM (hP 102 (by decide)) a2) (mal_c (g_at hM (hP 117 (by decide)) a3) (mal_n _))), ?_, _, he, ?_⟩
  · exact gnd hq [110, 102, 117] (inP hP [110, 102, 117] rfl) (by decide)
  · refine g_lf hM hq (va_up (va_up (va_up C 110 (maO q (nI S.length) oh op i1 i2 (nI fr) ly tx inn co mit)) 102 (.inl (cy 0, 14928, .inl D))) 117 (.inl (cy 1, 204, .inl m))) [110, 102, 117] (inP hP [110, 102, 117] rfl) (fun k _ hk => ?_) (fun M' hM' => hK v M' _ hM' ?_ ?_ (by rw [up_n (by decide), up_n (by decide), up_n (by decide)]) hv)
    · rw [up_n (fun e => hk (by rw [e]; decide)), up_n (fun e => hk (by rw [e]; decide)), up_n (fun e => hk (by rw [e]; decide))]
    · exact maR_c H' (fun k hk => by rw [up_n (by omega), up_n (by omega), up_n (by omega)]) (by rw [up_n (by decide), up_n (by decide), up_e]) (by rw [up_n (by decide), up_e]) up_e (by rw [up_n (by decide), up_n (by decide), up_n (by decide)]; exact a4) (by rw [up_n (by decide), up_n (by decide), up_n (by decide)]; exact a5)
    · exact fun k hk => by rw [up_n (by omega), up_n (by omega), up_n (by omega)]
set_option maxHeartbeats 2000000 in
theorem w_spend {F : Type} [Lean.Grind.Field F] [DecidableEq F] {c : Int → F} {P : Nat → Prop} {q : Nat → Nat} {cy : Nat → ClassId} (hq : IJ P q) (hP : ∀ k, k < 138 ∧ k ≠ 29 ∧ k ≠ 137 ∧ k ≠ 135 → P k) (fu MC MS : Nat) (ad : Nat → Nat) (mi : Nat) {Φ : Mm → Prop} (κ σ : Nat) {C : Nat → va_E} {M : Mm} (hM : RG P q C M) {h oh op i1 i2 fr : Int32} {ly : Value} {tx inn : Int32} {co : Value} {mit : Int32} {D m o tk : Nat → Int32} (H : maR c C q cy h oh op i1 i2 fr ly tx inn co mit D m o tk) {a1 a4 : Nat} {a2 a3 : Int32} (hΦ : ∀ M' C', RG P q C' M' → maR c C' q cy (nI 0) oh op i1 i2 (nI 2064) (.ref a1) a2 a3 (.ref a4) 0 D m o tk → fM C C' → C' 116 = C 116 → Φ M') : xw_mMa_spend fu MC MS cy ad mi Φ κ σ M (q 110) a1 a2 a3 a4 := by
  have e1 := H.1.1
  unfold xw_mMa_spend
  refine g_pt hM hq (hP 110 (by decide)) e1 (show 14 < 19 by decide) (fun M1 hM1 => ?_)
  refine g_pt hM1 hq (hP 110 (by decide)) up_e (show 15 < 19 by decide) (fun M2 hM2 => ?_)
  refine g_pt hM2 hq (hP 110 (by decide)) up_e (show 16 < 19 by decide) (fun M3 hM3 => ?_)
  refine g_pt hM3 hq (hP 110 (by decide)) up_e (show 17 < 19 by decide) (fun M4 hM4 => ?_)
  refine g_pt hM4 hq (hP 110 (by decide)) up_e (show 18 < 19 by decide) (fun M5 hM5 => ?_)
  refine g_pt hM5 hq (hP 110 (by decide)) up_e (show 8 < 19 by decide) (fun M6 hM6 => ?_)
  refine g_pt hM6 hq (hP 110 (by decide)) up_e (show 13 < 19 by decide) (fun M7 hM7 => ?_)
  obtain ⟨C7, hC7⟩ : ∃ C7, C7 = va_up C 110 (maO q (nI 0) oh op i1 i2 (nI 2064) (.ref a1) a2 a3 (.ref a4) 0) := ⟨_, rfl⟩
  have hM8 : RG P q C7 M7 := RG_c hM7 (fun k _ => by
    rw [hC7]
    by_cases e : k = 110
    · rw [e, up_e, up_e]; rfl
    · rw [up_n e, up_n e, up_n e, up_n e, up_n e, up_n e, up_n e, up_n e])
  have n7 : ∀ k, k ≠ 110 → C7 k = C k := fun k hk => by rw [hC7, up_n hk]
  exact hΦ M7 C7 hM8 (maR_c H (fun k hk => n7 k (by omega)) (by rw [hC7, up_e]) ((n7 102 (by decide)).trans H.1.2.1) ((n7 117 (by decide)).trans H.1.2.2.1) ((n7 118 (by decide)).trans H.1.2.2.2.1) ((n7 119 (by decide)).trans H.1.2.2.2.2)) (fun k hk => n7 k (by omega)) (n7 116 (by decide))
