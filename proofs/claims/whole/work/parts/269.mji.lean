-- the ledger follows a way: what holds
def wJ (sgB : Nat → List Int32 → List Int32 → Bool) (rw : Nat → List Int32) (par hgt : Nat → Nat) (nb N : Nat) (mk : Nat → Nat) (s : Ld) (a : Nat) (V : List Cn) : Prop := ldI rw nb N s ∧ mkI sgB rw par hgt mk s.2.1 a ∧ mk a = s.2.1.length ∧ (∀ x, x ∈ s.1 ↔ x ∈ V) ∧ ∃ i, evW sgB rw hgt (wy par a) [] 0 i V
set_option maxHeartbeats 400000 in
theorem sumL_1 {α : Type} (f : α → Nat) (x : α) : sumL f [x] = f x := Nat.add_zero _
set_option maxHeartbeats 400000 in
theorem wJ_st {sgB : Nat → List Int32 → List Int32 → Bool} {rw : Nat → List Int32} {par hgt tim : Nat → Nat} {nb N : Nat} (hp : ∀ k, 0 < k → par k < k) (hh : hgt 0 = 0 ∧ ∀ k, 0 < k → k < nb → hgt k = hgt (par k) + 1) (hA : bkA rw hgt tim nb) (hNB : ∀ x, x < nb → sumL (hBn rw) (wy par x) ≤ N) {mk : Nat → Nat} {s : Ld} {a n T w : Nat} {V V' : List Cn} (h : wJ sgB rw par hgt nb N mk s a V) (hn0 : 0 < n) (hn : n < nb) (ha : par n = a) (hT : cnT rw hgt n V T w) (hv : vld sgB rw hgt n V 0 V') : w = 0 ∧ T = (TLb rw n).length ∧ V' = Uq rw hgt n V T ∧ wJ sgB rw par hgt nb N (mkC rw mk n T s) (Sq rw n s T) n V' ∧ leC s (Sq rw n s T) ∧ s.2.1.length + nIn (TLb rw n) + 2 * nOut (TLb rw n) ≤ N := by
  obtain ⟨h1, h2, h3, h4, i, h5⟩ := h
  obtain ⟨v1, v2, v3, v4⟩ := vld_3 hT hv
  have hbk := hA.2 n hn0 hn
  have hmk := (h2 a ⟨0, rfl, rfl⟩).2.2.1
  have hw : wy par n = wy par a ++ [n] := by rw [wy_s hp hn0, ha]
  have hNn := hNB n hn
  rw [hw, sumL_ap, sumL_1] at hNn
  have hN2 : s.2.1.length + nIn (TLb rw n) + 2 * nOut (TLb rw n) ≤ N := by
    rw [← h3]
    unfold hBn at hNn hmk
    omega
  obtain ⟨j1, j2, j3, D, j4, j5⟩ := Sq_I h1 hn hbk h4 hN2 T hT.1 hT.2.1
  have hev : evW sgB rw hgt (wy par n) [] 0 i V' := by
    rw [hw]
    exact evW_ap _ _ _ _ _ V V' i h5 ⟨0, V', hv, Or.inr ⟨rfl, rfl, rfl⟩⟩
  have hmem : ∀ x, x ∈ (Sq rw n s T).1 ↔ x ∈ V' := by rw [v3]; exact j3
  refine ⟨v1, v2, v3, ⟨j1, ?_, ?_, hmem, i, hev⟩, j2, hN2⟩
  · have hmC : mkC rw mk n T s = upW mk n (Sq rw n s T).2.1.length := if_pos v2
    rw [hmC, j4]
    refine mkI_nx hp hh hn0 hn (by rw [ha]; exact h2) ?_ hev ?_
    · rw [List.length_append, hw, sumL_ap, sumL_1, ← h3]
      rw [v2, List.take_length] at j5
      unfold hBn at hmk ⊢
      omega
    · intro x
      rw [← hmem x, ← j4]
      exact j1.2.1 x
  · have hmC : mkC rw mk n T s = upW mk n (Sq rw n s T).2.1.length := if_pos v2
    rw [hmC, upW_s]
set_option maxHeartbeats 400000 in
theorem wJ_rb {sgB : Nat → List Int32 → List Int32 → Bool} {rw : Nat → List Int32} {par hgt tim : Nat → Nat} {nb N : Nat} (hp : ∀ k, 0 < k → par k < k) (hh : hgt 0 = 0 ∧ ∀ k, 0 < k → k < nb → hgt k = hgt (par k) + 1) (hA : bkA rw hgt tim nb) (hNB : ∀ x, x < nb → sumL (hBn rw) (wy par x) ≤ N) {mk : Nat → Nat} {s : Ld} {top z : Nat} (h1 : ldI rw nb N s) (h2 : mkI sgB rw par hgt mk s.2.1 top) (hz : isA par hgt z top) : mk z ≤ s.2.1.length ∧ ∃ V, wJ sgB rw par hgt nb N mk (rbN (s.2.1.length - mk z) s) z V ∧ (rbN (s.2.1.length - mk z) s).2.2 = s.2.2 := by
  obtain ⟨a, b, d, i, V, e, f⟩ := h2 z hz
  obtain ⟨r1, r2, r3⟩ := rbN_I (s.2.1.length - mk z) s h1 (by omega)
  have e1 : (rbN (s.2.1.length - mk z) s).2.1 = s.2.1.take (mk z) := by
    rw [r2, show s.2.1.length - (s.2.1.length - mk z) = mk z from by omega]
  refine ⟨a, V, ⟨r1, ?_, ?_, fun x => ?_, i, e⟩, r3⟩
  · rw [e1]
    exact mkI_tk h2 hz
  · rw [e1, List.length_take]
    omega
  · rw [r1.2.1 x, e1]
    exact (f x).symm
set_option maxHeartbeats 400000 in
theorem evW_sp {sgB : Nat → List Int32 → List Int32 → Bool} {rw : Nat → List Int32} {hgt : Nat → Nat} : ∀ (A B : List Nat) (U : List Cn) (x : Nat) (V : List Cn), evW sgB rw hgt (A ++ B) U 0 x V → ∃ y W, evW sgB rw hgt A U 0 y W ∧ evW sgB rw hgt B W 0 x V
  | [], B, U, x, V, h => ⟨0, U, ⟨rfl, rfl⟩, h⟩
  | b :: A, B, U, x, V, ⟨v, W, h1, h2⟩ => by
    rcases h2 with ⟨h2, h3, h4⟩ | ⟨h2, h3⟩
    · exact absurd h3.symm h2
    · obtain ⟨y, W', h4, h5⟩ := evW_sp A B W x V h3
      exact ⟨y, W', ⟨v, W, h1, Or.inr ⟨h2, h4⟩⟩, h5⟩
set_option maxHeartbeats 400000 in
theorem wy_isA {par hgt : Nat → Nat} (hp : ∀ k, 0 < k → par k < k) {nb : Nat} (hh : hgt 0 = 0 ∧ ∀ k, 0 < k → k < nb → hgt k = hgt (par k) + 1) {x b : Nat} (hb : b < nb) (h : isA par hgt x b) : ∃ L, wy par b = wy par x ++ L := by
  obtain ⟨n, h1, h2⟩ := h
  induction n generalizing b with
  | zero =>
    replace h1 : b = x := h1
    exact ⟨[], by rw [h1, List.append_nil]⟩
  | succ n ih =>
    have b0 : 0 < b := by
      rcases Nat.eq_zero_or_pos b with e | e
      · rw [e, hh.1] at h2
        omega
      · exact e
    have e1 := hh.2 b b0 hb
    have e2 := hp b b0
    obtain ⟨L, hL⟩ := ih (b := par b) (by omega) h1 (by omega)
    exact ⟨L ++ [b], by rw [wy_s hp b0, hL, List.append_assoc]⟩
set_option maxHeartbeats 400000 in
/-- the next block of a good way -/
theorem wJ_vl {sgB : Nat → List Int32 → List Int32 → Bool} {rw : Nat → List Int32} {par hgt tim : Nat → Nat} {nb N : Nat} (hp : ∀ k, 0 < k → par k < k) (hh : hgt 0 = 0 ∧ ∀ k, 0 < k → k < nb → hgt k = hgt (par k) + 1) (hA : bkA rw hgt tim nb) (hNB : ∀ x, x < nb → sumL (hBn rw) (wy par x) ≤ N) {mk : Nat → Nat} {s : Ld} {a n tip i : Nat} {V U : List Cn} (h : wJ sgB rw par hgt nb N mk s a V) (hn0 : 0 < n) (ha : par n = a) (htip : tip < nb) (hnt : isA par hgt n tip) (hU : evW sgB rw hgt (wy par tip) [] 0 i U) : ∃ V', vld sgB rw hgt n V 0 V' ∧ ∃ j, evW sgB rw hgt (wy par n) [] 0 j V' := by
  obtain ⟨L, hL⟩ := wy_isA hp hh htip hnt
  rw [hL] at hU
  obtain ⟨y, W', e1, -⟩ := evW_sp _ _ _ _ _ hU
  have e1' := e1
  rw [wy_s hp hn0, ha] at e1
  obtain ⟨y2, W2, e2, e3⟩ := evW_sp _ _ _ _ _ e1
  obtain ⟨h1, h2, h3, h4, i', h5⟩ := h
  have := (evW_u _ _ _ _ _ _ _ _ e2 h5).2.2 rfl
  subst this
  obtain ⟨v, X, d1, d2⟩ := e3
  rcases d2 with ⟨d2, d3, -⟩ | ⟨d2, d3, d4⟩
  · exact absurd d3.symm d2
  · subst d2 d4
    exact ⟨_, d1, y, e1'⟩
-- the keeper's memory while a row is submitted
def kBd {F : Type} [Lean.Grind.Field F] [DecidableEq F] (c : Int → F) (P : Nat → Prop) (q : Nat → Nat) (C : Nat → va_E) (M : Mm) (cy : Nat → ClassId) (ad : Nat → Nat) (nb : Nat) (par hgt tim : Nat → Nat) (bit : Nat → Int32) (bad : Nat → Bool) (rw : Nat → List Int32) (vl : Nat → Bool) (mk : Nat → Nat) (s : Ld) (rl tk : Int32) (tip cb : Nat) : Prop := RG P q C M ∧ ldM P q C cy ad nb par hgt tim bit bad rw vl mk s ∧ (∃ ck', C 103 = kpO q rl tip tk ck') ∧ lyX C q cy ∧ (∃ f, C 134 = spA cy f) ∧ mcX c C q cy ∧ alR P q C cy 133 222 (blL nb) cb
def sbF (P : Nat → Prop) (q : Nat → Nat) (C : Nat → va_E) (P' : Nat → Prop) (q' : Nat → Nat) (C' : Nat → va_E) : Prop := (∀ j, P j → P' j) ∧ (∀ j, P' j → P j ∨ j = 220 ∨ j = 221) ∧ (∀ j, j ≠ 220 → j ≠ 221 → q' j = q j) ∧ ∀ j, j < 256 → (j = 104 ∨ j = 105 ∨ j = 133 ∨ (135 ≤ j ∧ j ≠ 220 ∧ j ≠ 221)) → C' j = C j
set_option maxHeartbeats 400000 in
theorem sbF_r {P : Nat → Prop} {q : Nat → Nat} {C : Nat → va_E} : sbF P q C P q C := ⟨fun _ h => h, fun _ h => Or.inl h, fun _ _ _ => rfl, fun _ _ _ => rfl⟩
set_option maxHeartbeats 400000 in
theorem sbF_t {P P1 P2 : Nat → Prop} {q q1 q2 : Nat → Nat} {C C1 C2 : Nat → va_E} (h1 : sbF P q C P1 q1 C1) (h2 : sbF P1 q1 C1 P2 q2 C2) : sbF P q C P2 q2 C2 := by
  refine ⟨fun j h => h2.1 j (h1.1 j h), fun j h => ?_, fun j a b => (h2.2.2.1 j a b).trans (h1.2.2.1 j a b), fun j a b => (h2.2.2.2 j a b).trans (h1.2.2.2 j a b)⟩
  rcases h2.2.1 j h with h | h
  · exact h1.2.1 j h
  · exact Or.inr h
set_option maxHeartbeats 400000 in
theorem sbF_c {P P1 : Nat → Prop} {q q1 : Nat → Nat} {C C1 : Nat → va_E} (h : coF P q C P1 q1 C1) : sbF P q C P1 q1 C1 := ⟨h.1, h.2.1, h.2.2.1, fun j a b => h.2.2.2 j a (by omega) (by omega) (by omega) (by omega) (by omega) (by omega) (by omega)⟩
set_option maxHeartbeats 400000 in
theorem sbF_al {P P1 : Nat → Prop} {q q1 : Nat → Nat} {C C1 : Nat → va_E} (h : sbF P q C P1 q1 C1) {cy : Nat → ClassId} {nb cb : Nat} (hL : alR P q C cy 133 222 (blL nb) cb) : alR P1 q1 C1 cy 133 222 (blL nb) cb := alR_q hL ⟨h.1 _ hL.1, ⟨fun z => by
  rcases h.2.1 _ z with z | z | z
  · exact z
  · exact absurd z (by decide)
  · exact absurd z (by decide), fun z => h.1 _ z⟩⟩ (h.2.2.1 _ (by decide) (by decide)) (fun _ => h.2.2.1 _ (by decide) (by decide)) (fun j hj => by
  obtain ⟨b, hb, e⟩ := blL_m hj
  rw [e]
  exact h.2.2.1 _ (by unfold kB; omega) (by unfold kB; omega)) (h.2.2.2 133 (by decide) (by decide)) (fun _ => h.2.2.2 222 (by decide) (by decide))
set_option maxHeartbeats 400000 in
/-- behind connect -/
theorem kBd_cn {F : Type} [Lean.Grind.Field F] [DecidableEq F] {c : Int → F} {P P' : Nat → Prop} {q q' : Nat → Nat} {C C' : Nat → va_E} {M' : Mm} {cy : Nat → ClassId} {ad : Nat → Nat} {nb : Nat} {par hgt tim : Nat → Nat} {bit : Nat → Int32} {bad : Nat → Bool} {rw : Nat → List Int32} {vl : Nat → Bool} {mk : Nat → Nat} {s : Ld} {rl tk : Int32} {tip cb b T : Nat} {mk' : Nat → Nat} {U : List Cn} (hm : mcX c C q cy) (hL : alR P q C cy 133 222 (blL nb) cb) (h : cnP P q C cy ad nb par hgt tim bit bad rw vl mk' rl tk tip b s U T P' q' C' M') : kBd c P' q' C' M' cy ad nb par hgt tim bit bad rw vl mk' (Sq rw b s T) rl tk tip cb ∧ sbF P q C P' q' C' := by
  obtain ⟨h1, h2, h3, ⟨u3, u4, u5, u6, u7, u8, u9, u10, u11, h4⟩, ⟨f, h5, -⟩, h6⟩ := h
  have hF := sbF_c h6
  exact ⟨⟨h1, h2, ⟨_, h3⟩, lyX_r h4, ⟨f, h5⟩, mcX_q hm (fun k a b _ _ => h6.2.2.2 k (by omega) b (by omega) (by omega) (by omega) (by omega) (by omega) (by omega)) (fun k hk => h6.2.2.1 k (by omega) (by omega)), sbF_al hF hL⟩, hF⟩
