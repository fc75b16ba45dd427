-- the law's state
def rfS (sgB : Nat → List Int32 → List Int32 → Bool) (S : Ab) (R : List Int32) (z : Nat → Int32) (A : Nat → Nat → Int32) (Q : Nat → Int64) : Prop := rRow z (A 0) R ∧ rSt sgB (A 39) S z (A 1) (A 3) (A 4) (A 5) (A 6) (A 7) (A 8) (A 9) (A 10) (A 11) (A 12) (A 13) (A 14) (A 15) (A 16) (A 17) (A 18) (A 20) (A 21) (A 22) (A 23) (A 24) Q (A 26) (A 27) (A 28) (A 29) (A 30) (A 31) (A 32) (A 33) (A 68) (A 72)
def lwS {F : Type} [Lean.Grind.Field F] [DecidableEq F] (c : Int → F) (sgB : Nat → List Int32 → List Int32 → Bool) (P : Nat → Prop) (q : Nat → Nat) (C : Nat → va_E) (M : Mm) (cy : Nat → ClassId) (ad : Nat → Nat) (S : Ab) (R : List Int32) (vl : Nat → Bool) (mk : Nat → Nat) (s : Ld) (cb : Nat) : Prop := kpS c P q C M cy ad S R vl mk s cb ∧ kpP sgB S R vl mk s cb ∧ (∀ k, 138 ≤ k → k ≤ 216 → P k) ∧ (∃ z A Q, rfM C q cy z A Q ∧ rfS sgB S R z A Q) ∧ ∃ w, C 136 = .inl (cy 2, 1, .inr (.inl w))
set_option maxHeartbeats 1000000 in
/-- cells of the law and the reference alone have changed -/
theorem kpS_c {F : Type} [Lean.Grind.Field F] [DecidableEq F] {c : Int → F} {cy : Nat → ClassId} {ad : Nat → Nat} {P : Nat → Prop} {q : Nat → Nat} {C : Nat → va_E} {M : Mm} {C' : Nat → va_E} {M' : Mm} {S : Ab} {R : List Int32} {vl : Nat → Bool} {mk : Nat → Nat} {s : Ld} {cb : Nat} (h : kpS c P q C M cy ad S R vl mk s cb) (hM : RG P q C' M') (hF : ∀ k, k < 136 ∨ 216 < k → C' k = C k) : kpS c P q C' M' cy ad S R vl mk s cb := by
  obtain ⟨⟨-, hS, ⟨ck', hK⟩, hly, ⟨f, h134⟩, hmc, hal⟩, ⟨g, h104, hg⟩, ⟨gi, h105, hgi⟩, h1, h2⟩ := h
  exact ⟨⟨hM, ldM_c hS (fun k hk => hF k (by omega)), ⟨ck', (hF 103 (by decide)).trans hK⟩, lyX_q hly (fun k a b => ⟨hF k (by omega), rfl⟩), ⟨f, (hF 134 (by decide)).trans h134⟩, mcX_q hmc (fun k a _ _ _ => hF k (by omega)) (fun _ _ => rfl), alR_c hal (hF 133 (by decide)) (hF 222 (by decide))⟩, ⟨g, (hF 104 (by decide)).trans h104, hg⟩, ⟨gi, (hF 105 (by decide)).trans h105, hgi⟩, h1, h2⟩
set_option maxHeartbeats 1000000 in
theorem rfM_c {C C' : Nat → va_E} {q q' : Nat → Nat} {cy : Nat → ClassId} {z : Nat → Int32} {A : Nat → Nat → Int32} {Q : Nat → Int64} (h : rfM C q cy z A Q) (e : ∀ k, 138 ≤ k → k ≤ 216 → C' k = C k ∧ q' k = q k) : rfM C' q' cy z A Q := by
  refine ⟨(e 216 (by decide) (by decide)).1.trans (h.1.trans ?_), fun i hi => ?_⟩
  · unfold rfO mo
    have hq : ∀ i, i < 78 → q' (138 + i) = q (138 + i) := fun i hi => (e _ (by omega) (by omega)).2
    simp only [hq 0 (by decide), hq 1 (by decide), hq 2 (by decide), hq 3 (by decide), hq 4 (by decide), hq 5 (by decide), hq 6 (by decide), hq 7 (by decide), hq 8 (by decide), hq 9 (by decide), hq 10 (by decide), hq 11 (by decide), hq 12 (by decide), hq 13 (by decide), hq 14 (by decide), hq 15 (by decide), hq 16 (by decide), hq 17 (by decide), hq 18 (by decide), hq 19 (by decide), hq 20 (by decide), hq 21 (by decide), hq 22 (by decide), hq 23 (by decide), hq 24 (by decide), hq 25 (by decide), hq 26 (by decide), hq 27 (by decide), hq 28 (by decide), hq 29 (by decide), hq 30 (by decide), hq 31 (by decide), hq 32 (by decide), hq 33 (by decide), hq 34 (by decide), hq 35 (by decide), hq 36 (by decide), hq 37 (by decide), hq 38 (by decide), hq 39 (by decide), hq 40 (by decide), hq 41 (by decide), hq 42 (by decide), hq 43 (by decide), hq 44 (by decide), hq 45 (by decide), hq 46 (by decide), hq 47 (by decide), hq 48 (by decide), hq 49 (by decide), hq 50 (by decide), hq 51 (by decide), hq 52 (by decide), hq 53 (by decide), hq 54 (by decide), hq 55 (by decide), hq 56 (by decide), hq 57 (by decide), hq 58 (by decide), hq 59 (by decide), hq 60 (by decide), hq 61 (by decide), hq 62 (by decide), hq 63 (by decide), hq 64 (by decide), hq 65 (by decide), hq 66 (by decide), hq 67 (by decide), hq 68 (by decide), hq 69 (by decide), hq 70 (by decide), hq 71 (by decide), hq 72 (by decide), hq 73 (by decide), hq 74 (by decide), hq 75 (by decide), hq 76 (by decide), hq 77 (by decide)]
  · unfold rfN at hi
    exact (e _ (by omega) (by omega)).1.trans (h.2 i hi)
set_option maxHeartbeats 1000000 in
theorem kpS_q {F : Type} [Lean.Grind.Field F] [DecidableEq F] {c : Int → F} {cy : Nat → ClassId} {ad : Nat → Nat} {P : Nat → Prop} {q : Nat → Nat} {C : Nat → va_E} {M : Mm} {S : Ab} {R : List Int32} {vl : Nat → Bool} {mk : Nat → Nat} {s : Ld} {cb : Nat} (h : kpS c P q C M cy ad S R vl mk s cb) : RG P q C M ∧ IJ P q ∧ (∀ k, k < 138 ∧ k ≠ 29 ∧ k ≠ 137 ∧ k ≠ 135 → P k) ∧ ∃ fs, C 103 = .inr (0, fs) := by
  obtain ⟨⟨hM, ⟨sl, hS⟩, ⟨ck', hK⟩, -⟩, -⟩ := h
  exact ⟨hM, hS.1.1, hS.1.2.1, _, hK⟩
set_option maxHeartbeats 1000000 in
/-- the law's out is written -/
theorem w_out {F : Type} [Lean.Grind.Field F] [DecidableEq F] {c : Int → F} {cy : Nat → ClassId} {ad : Nat → Nat} {P : Nat → Prop} {q : Nat → Nat} {C : Nat → va_E} {M : Mm} {S : Ab} {R : List Int32} {vl : Nat → Bool} {mk : Nat → Nat} {s : Ld} {cb : Nat} (h : kpS c P q C M cy ad S R vl mk s cb) {w : Nat → Int64} (h136 : C 136 = .inl (cy 2, 1, .inr (.inl w))) (x : Int64) {K : Mm → Prop} (hK : ∀ M' C' w', RG P q C' M' → kpS c P q C' M' cy ad S R vl mk s cb → C' 136 = .inl (cy 2, 1, .inr (.inl w')) → w' 0 = x → (∀ k, k ≠ 136 → C' k = C k) → K M') : msj M (q 136) (cy 2) (0 : Int32) x K := by
  obtain ⟨hM, hq, hP, -⟩ := kpS_q h
  refine g_sj hM hq (hP 136 (by decide)) h136 (by decide) (fun M' hM' => hK M' _ _ hM' (kpS_c h hM' (fun k hk => up_n (by omega))) up_e ?_ (fun k hk => up_n hk))
  show vp_updL w 0 x 0 = x
  unfold vp_updL
  rw [if_pos rfl]
set_option maxHeartbeats 1000000 in
set_option maxRecDepth 100000 in
/-- what the reference threw, and whether the answers are alike -/
theorem w_tl (fu : Nat) {cy : Nat → ClassId} {P : Nat → Prop} {q : Nat → Nat} {C : Nat → va_E} {M : Mm} (hM : RG P q C M) (hq : IJ P q) (hP : ∀ k, k < 138 ∧ k ≠ 29 ∧ k ≠ 137 ∧ k ≠ 135 → P k) (hPm : ∀ k, 138 ≤ k → k ≤ 216 → P k) {z : Nat → Int32} {A : Nat → Nat → Int32} {Q : Nat → Int64} (hr : rfM C q cy z A Q) {w : Nat → Int64} (h136 : C 136 = .inl (cy 2, 1, .inr (.inl w))) {x ans : Int64} {v17 : Int32} (h2 : z 2 = v17) (hans : v17 = 0 → w 0 = ans) (NEXT : Mm → Prop) (hN : ∀ M' C', RG P q C' M' → rfM C' q cy z A Q → (∀ k, k < 138 ∨ 216 < k → C' k = C k) → NEXT M') : ∃ (b35 : Nat → Nat) (c36 : Nat → Int32), mal M [((q 216), .inr (12, mo b35 c36))] ∧ mnd (List.map (fun x : Nat × va_E => x.1) [((q 216), .inr (12, mo b35 c36))]) ∧ ∃ (v37 : Int32), x_M_thrown fu c36 = some (v37) ∧ bnd (mov M [((q 216), .inr (12, mo b35 c36))]) fun M38 => if v37 = v17 then (if v17 = 0 then (maj M38 (q 136) (cy 2) (0 : Int32) fun v39 => if (lg_cmp v39 ans) = 0 then (NEXT M38) else (False)) else (NEXT M38)) else (False) := by
  refine w_Mthrown fu hM hq hPm hr (v := z 2) rfl (fun v37 M38 => if v37 = v17 then (if v17 = 0 then (maj M38 (q 136) (cy 2) (0 : Int32) fun v39 => if (lg_cmp v39 ans) = 0 then (NEXT M38) else (False)) else (NEXT M38)) else (False)) (fun M' C' hM' hr' hF' => ?_)
  refine m_t h2 ?_
  have hn := hN M' C' hM' hr' hF'
  by_cases g : v17 = 0
  · refine m_t g (m_aj (g_at hM' (hP 136 (by decide)) ((hF' 136 (by decide)).trans h136)) (by decide) ?_)
    show if (lg_cmp (w 0) ans) = 0 then _ else _
    refine m_t ?_ hn
    rw [hans g]
    exact (lg_c ans ans).1.mpr rfl
  · exact m_f g hn
set_option maxHeartbeats 1000000 in
set_option maxRecDepth 100000 in
theorem w_tl2 (fu : Nat) {cy : Nat → ClassId} {P : Nat → Prop} {q : Nat → Nat} {C : Nat → va_E} {M : Mm} (hM : RG P q C M) (hq : IJ P q) (hP : ∀ k, k < 138 ∧ k ≠ 29 ∧ k ≠ 137 ∧ k ≠ 135 → P k) (hPm : ∀ k, 138 ≤ k → k ≤ 216 → P k) {z : Nat → Int32} {A : Nat → Nat → Int32} {Q : Nat → Int64} (hr : rfM C q cy z A Q) {w : Nat → Int64} (h136 : C 136 = .inl (cy 2, 1, .inr (.inl w))) {v17 v : Int32} (h2 : z 2 = v17) (hans : v17 = 0 → w 0 = if v = 0 then 0 else 1) (Y : Mm → Int64 → Int64 → Prop) (NEXT : Mm → Prop) (hY : ∀ M' x, NEXT M' → Y M' x x) (hN : ∀ M' C', RG P q C' M' → rfM C' q cy z A Q → (∀ k, k < 138 ∨ 216 < k → C' k = C k) → NEXT M') : ∃ (b35 : Nat → Nat) (c36 : Nat → Int32), mal M [((q 216), .inr (12, mo b35 c36))] ∧ mnd (List.map (fun x : Nat × va_E => x.1) [((q 216), .inr (12, mo b35 c36))]) ∧ ∃ (v37 : Int32), x_M_thrown fu c36 = some (v37) ∧ bnd (mov M [((q 216), .inr (12, mo b35 c36))]) fun M38 => if v37 = v17 then (if v17 = 0 then (maj M38 (q 136) (cy 2) (0 : Int32) fun v39 => if v = 0 then (Y M38 (0 : Int64) v39) else (Y M38 (1 : Int64) v39)) else (NEXT M38)) else (False) := by
  refine w_Mthrown fu hM hq hPm hr (v := z 2) rfl (fun v37 M38 => if v37 = v17 then (if v17 = 0 then (maj M38 (q 136) (cy 2) (0 : Int32) fun v39 => if v = 0 then (Y M38 (0 : Int64) v39) else (Y M38 (1 : Int64) v39)) else (NEXT M38)) else (False)) (fun M' C' hM' hr' hF' => ?_)
  refine m_t h2 ?_
  have hn := hN M' C' hM' hr' hF'
  by_cases g : v17 = 0
  · refine m_t g (m_aj (g_at hM' (hP 136 (by decide)) ((hF' 136 (by decide)).trans h136)) (by decide) ?_)
    show if v = 0 then (Y M' (0 : Int64) (w 0)) else (Y M' (1 : Int64) (w 0))
    have hw := hans g
    by_cases e : v = 0
    · rw [if_pos e] at hw
      refine m_t e ?_
      rw [hw]
      exact hY M' 0 hn
    · rw [if_neg e] at hw
      refine m_f e ?_
      rw [hw]
      exact hY M' 1 hn
  · exact m_f g hn
set_option maxHeartbeats 1000000 in
theorem rSt_z {sgB : Nat → List Int32 → List Int32 → Bool} {S : Ab} {R R' : List Int32} {z z' : Nat → Int32} {A A' : Nat → Nat → Int32} {Q : Nat → Int64} (h : rfS sgB S R z A Q) (hz : zq z z') (hA : ∀ i, i ≠ 0 → i < 34 → A' i = A i) (h39 : A' 39 = A 39) (h68 : ftB (A' 68)) (h72 : A' 72 = A 72) (hr : rRow z' (A' 0) R') : rfS sgB S R' z' A' Q := by
  obtain ⟨-, a, b, d, e, ⟨z1, z3, z5, z6, z7⟩, ⟨z4, N, cs, z19, f⟩, -⟩ := h
  have k1 : z' 1 = z 1 := hz 1 (by omega)
  have k3 : z' 3 = z 3 := hz 3 (by omega)
  have k4 : z' 4 = z 4 := hz 4 (by omega)
  have k5 : z' 5 = z 5 := hz 5 (by omega)
  have k6 : z' 6 = z 6 := hz 6 (by omega)
  have k7 : z' 7 = z 7 := hz 7 (by omega)
  have k19 : z' 19 = z 19 := hz 19 (by omega)
  refine ⟨hr, ?_⟩
  rw [h39, h72, hA 1 (by decide) (by decide), hA 3 (by decide) (by decide), hA 4 (by decide) (by decide), hA 5 (by decide) (by decide), hA 6 (by decide) (by decide), hA 7 (by decide) (by decide), hA 8 (by decide) (by decide), hA 9 (by decide) (by decide), hA 10 (by decide) (by decide), hA 11 (by decide) (by decide), hA 12 (by decide) (by decide), hA 13 (by decide) (by decide), hA 14 (by decide) (by decide), hA 15 (by decide) (by decide), hA 16 (by decide) (by decide), hA 17 (by decide) (by decide), hA 18 (by decide) (by decide), hA 20 (by decide) (by decide), hA 21 (by decide) (by decide), hA 22 (by decide) (by decide), hA 23 (by decide) (by decide), hA 24 (by decide) (by decide), hA 26 (by decide) (by decide), hA 27 (by decide) (by decide), hA 28 (by decide) (by decide), hA 29 (by decide) (by decide), hA 30 (by decide) (by decide), hA 31 (by decide) (by decide), hA 32 (by decide) (by decide), hA 33 (by decide) (by decide)]
  exact ⟨a, b, d, e, ⟨k1.trans z1, k3.trans z3, k5.trans z5, k6.trans z6, k7.trans z7⟩, ⟨k4.trans z4, N, cs, k19.trans z19, f⟩, h68⟩
set_option maxHeartbeats 1000000 in
theorem zq_02 {z z' : Nat → Int32} (h : z02 z z') : zq z z' := fun j hj => h j (by omega) (by omega)
