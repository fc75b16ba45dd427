-- a block more: the ledger's states stay
set_option maxHeartbeats 400000 in
theorem isA_g {rw rw' : Nat → List Int32} {par par' hgt hgt' : Nat → Nat} {nb : Nat} (hg : agr nb rw hgt rw' hgt') (hpp : ∀ k, 0 < k → k < nb → par k < k ∧ par' k = par k) (hh : hgt 0 = 0 ∧ ∀ k, 0 < k → k < nb → hgt k = hgt (par k) + 1) {x : Nat} : ∀ n b, b < nb → up par n b = x → hgt b = hgt x + n → (up par' n b = x ∧ hgt' b = hgt' x + n) ∧ x ≤ b
  | 0, b, hb, h1, h2 => by
    replace h1 : b = x := h1
    subst h1
    exact ⟨⟨rfl, rfl⟩, Nat.le_refl _⟩
  | n + 1, b, hb, h1, h2 => by
    have b0 : 0 < b := by
      rcases Nat.eq_zero_or_pos b with e | e
      · rw [e, hh.1] at h2
        omega
      · exact e
    have e1 := hh.2 b b0 hb
    obtain ⟨e2, e3⟩ := hpp b b0 hb
    obtain ⟨⟨i1, i2⟩, i3⟩ := isA_g hg hpp hh n (par b) (by omega) h1 (by omega)
    refine ⟨⟨?_, ?_⟩, by omega⟩
    · show up par' n (par' b) = x
      rw [e3]
      exact i1
    · rw [(hg b hb).2, e1]
      rw [(hg (par b) (by omega)).2] at i2
      omega
set_option maxHeartbeats 400000 in
theorem isA_x {rw rw' : Nat → List Int32} {par par' hgt hgt' : Nat → Nat} {nb : Nat} (hg : agr nb rw hgt rw' hgt') (hpp : ∀ k, 0 < k → k < nb → par k < k ∧ par' k = par k) (hh : hgt 0 = 0 ∧ ∀ k, 0 < k → k < nb → hgt k = hgt (par k) + 1) {x b : Nat} (hb : b < nb) : isA par' hgt' x b ↔ isA par hgt x b := by
  constructor
  · rintro ⟨n, h1, h2⟩
    have hg' := ag_s hg
    have hpp' : ∀ k, 0 < k → k < nb → par' k < k ∧ par k = par' k := fun k a b => by
      obtain ⟨e1, e2⟩ := hpp k a b
      rw [e2]
      exact ⟨e1, rfl⟩
    have hh' : hgt' 0 = 0 ∧ ∀ k, 0 < k → k < nb → hgt' k = hgt' (par' k) + 1 := ⟨by rw [(hg 0 (by omega)).2]; exact hh.1, fun k a b => by
      obtain ⟨e1, e2⟩ := hpp k a b
      rw [e2, (hg k b).2, (hg (par k) (by omega)).2]
      exact hh.2 k a b⟩
    exact ⟨n, (isA_g hg' hpp' hh' n b hb h1 h2).1⟩
  · rintro ⟨n, h1, h2⟩
    exact ⟨n, (isA_g hg hpp hh n b hb h1 h2).1⟩
set_option maxHeartbeats 400000 in
theorem cVd_x {rw rw' : Nat → List Int32} {par par' hgt hgt' : Nat → Nat} {nb : Nat} (hg : agr nb rw hgt rw' hgt') (hpp : ∀ k, 0 < k → k < nb → par k < k ∧ par' k = par k) (hh : hgt 0 = 0 ∧ ∀ k, 0 < k → k < nb → hgt k = hgt (par k) + 1) {x : Cn} (hx : x.1 < nb) {nb' : Nat} (hn : nb ≤ nb') : cVd rw' nb' x ↔ cVd rw nb x := by
  unfold cVd Vdr
  rw [ag_TL hg hx, ag_tx hg hx]
  exact ⟨fun h => ⟨⟨hx, h.1.2⟩, h.2⟩, fun h => ⟨⟨by omega, h.1.2⟩, h.2⟩⟩
set_option maxHeartbeats 400000 in
theorem ck_x {rw rw' : Nat → List Int32} {par par' hgt hgt' : Nat → Nat} {nb : Nat} (hg : agr nb rw hgt rw' hgt') (hpp : ∀ k, 0 < k → k < nb → par k < k ∧ par' k = par k) (hh : hgt 0 = 0 ∧ ∀ k, 0 < k → k < nb → hgt k = hgt (par k) + 1) {x : Cn} (hx : x.1 < nb) : ck rw' x = ck rw x := by
  unfold ck ckO
  rw [ag_TL hg hx]
set_option maxHeartbeats 400000 in
theorem kyU_x {rw rw' : Nat → List Int32} {par par' hgt hgt' : Nat → Nat} {nb : Nat} (hg : agr nb rw hgt rw' hgt') (hpp : ∀ k, 0 < k → k < nb → par k < k ∧ par' k = par k) (hh : hgt 0 = 0 ∧ ∀ k, 0 < k → k < nb → hgt k = hgt (par k) + 1) {L : List Cn} (hL : bU nb L) (h : kyU rw L) : kyU rw' L := fun x y hx hy e => h x y hx hy (by
  rw [ag_cK hg (hL x hx), ag_cK hg (hL y hy)] at e
  exact e)
set_option maxHeartbeats 400000 in
theorem ldI_x {rw rw' : Nat → List Int32} {par par' hgt hgt' : Nat → Nat} {nb : Nat} (hg : agr nb rw hgt rw' hgt') (hpp : ∀ k, 0 < k → k < nb → par k < k ∧ par' k = par k) (hh : hgt 0 = 0 ∧ ∀ k, 0 < k → k < nb → hgt k = hgt (par k) + 1) {N : Nat} {s : Ld} {nb' : Nat} (hn : nb ≤ nb') (h : ldI rw nb N s) : ldI rw' nb' N s := by
  obtain ⟨h1, h2, h3, h4, h5⟩ := h
  refine ⟨h1, h2, fun k L hL hp => ?_, fun x hx => (cVd_x hg hpp hh (h4 x hx).1.1 hn).mpr (h4 x hx), h5⟩
  obtain ⟨a, b⟩ := h3 k L hL hp
  refine ⟨a, kyU_x hg hpp hh (fun x hx => ?_) b⟩
  have := (hp x).mp hx
  have hm : x ∈ s.2.1.take k := List.count_pos_iff.mp (by omega)
  exact (h4 x (List.mem_of_mem_take hm)).1.1
set_option maxHeartbeats 400000 in
theorem ev_x {rw rw' : Nat → List Int32} {par par' hgt hgt' : Nat → Nat} {nb : Nat} (hg : agr nb rw hgt rw' hgt') (hpp : ∀ k, 0 < k → k < nb → par k < k ∧ par' k = par k) (hh : hgt 0 = 0 ∧ ∀ k, 0 < k → k < nb → hgt k = hgt (par k) + 1) {sgB : Nat → List Int32 → List Int32 → Bool} (hp : ∀ k, 0 < k → par k < k) {x j w : Nat} (hx : x < nb) {V : List Cn} (h : evW sgB rw hgt (wy par x) [] w j V) : evW sgB rw' hgt' (wy par' x) [] w j V := by
  rw [ag_wy hpp hx]
  exact (ag_evW hg _ _ _ _ _ (fun b hb => by have := (wy_mem hp _ b hb).2; omega) (fun c hc => absurd hc List.not_mem_nil) h).1
set_option maxHeartbeats 400000 in
theorem mkI_x {rw rw' : Nat → List Int32} {par par' hgt hgt' : Nat → Nat} {nb : Nat} (hg : agr nb rw hgt rw' hgt') (hpp : ∀ k, 0 < k → k < nb → par k < k ∧ par' k = par k) (hh : hgt 0 = 0 ∧ ∀ k, 0 < k → k < nb → hgt k = hgt (par k) + 1) {sgB : Nat → List Int32 → List Int32 → Bool} (hp : ∀ k, 0 < k → par k < k) {mk mk' : Nat → Nat} (hm : ∀ k, k < nb → mk' k = mk k) {H : List Cn} {top : Nat} (ht : top < nb) (h : mkI sgB rw par hgt mk H top) : mkI sgB rw' par' hgt' mk' H top := fun x hx => by
  have hx1 := (isA_x hg hpp hh ht).mp hx
  obtain ⟨n, y1, y2⟩ := id hx1
  have hxt := (isA_g hg hpp hh n top ht y1 y2).2
  obtain ⟨a, b, d, i, V, e, f⟩ := h x hx1
  rw [hm x (by omega)]
  refine ⟨a, fun y hy => ?_, ?_, i, V, ev_x hg hpp hh hp (by omega) e, f⟩
  · have hy1 := (isA_x hg hpp hh (by omega)).mp hy
    obtain ⟨n, y1, y2⟩ := id hy1
    have hyt := (isA_g hg hpp hh n x (by omega) y1 y2).2
    rw [hm y (by omega)]
    exact b y hy1
  · rw [ag_wy hpp (by omega), sumL_cg (q := hBn rw) _ fun y hy => ?_]
    · exact d
    · have := (wy_mem hp _ y hy).2
      unfold hBn
      rw [ag_TL hg (by omega)]
set_option maxHeartbeats 400000 in
theorem wJ_x {rw rw' : Nat → List Int32} {par par' hgt hgt' : Nat → Nat} {nb : Nat} (hg : agr nb rw hgt rw' hgt') (hpp : ∀ k, 0 < k → k < nb → par k < k ∧ par' k = par k) (hh : hgt 0 = 0 ∧ ∀ k, 0 < k → k < nb → hgt k = hgt (par k) + 1) {sgB : Nat → List Int32 → List Int32 → Bool} (hp : ∀ k, 0 < k → par k < k) {mk mk' : Nat → Nat} (hm : ∀ k, k < nb → mk' k = mk k) {N nb' : Nat} (hn : nb ≤ nb') {s : Ld} {a : Nat} (ha : a < nb) {V : List Cn} (h : wJ sgB rw par hgt nb N mk s a V) : wJ sgB rw' par' hgt' nb' N mk' s a V := by
  obtain ⟨h1, h2, h3, h4, i, h5⟩ := h
  exact ⟨ldI_x hg hpp hh hn h1, mkI_x hg hpp hh hp hm ha h2, by rw [hm a ha]; exact h3, h4, i, ev_x hg hpp hh hp ha h5⟩
set_option maxHeartbeats 400000 in
/-- the ledger in the memory, with a block more -/
theorem ldM_x {rw rw' : Nat → List Int32} {par par' hgt hgt' : Nat → Nat} {nb : Nat} (hg : agr nb rw hgt rw' hgt') (hpp : ∀ k, 0 < k → k < nb → par k < k ∧ par' k = par k) (hh : hgt 0 = 0 ∧ ∀ k, 0 < k → k < nb → hgt k = hgt (par k) + 1) {P P' : Nat → Prop} {q q' : Nat → Nat} {C C' : Nat → va_E} {cy : Nat → ClassId} {ad : Nat → Nat} {tim tim' : Nat → Nat} {bit bit' : Nat → Int32} {bad bad' vl vl' : Nat → Bool} {mk mk' : Nat → Nat} {s : Ld} {sl : Cn → Int32} (h : ldS P q C cy ad nb par hgt tim bit bad rw vl mk sl s.1 s.2.1 s.2.2.1 s.2.2.2) (hq : IJ P' q') (hP : ∀ j, j < 256 → (P' j ↔ P j ∨ j = 222)) (hqe : ∀ j, P j ∨ j = 135 → j ≠ 222 → q' j = q j) (hCe : ∀ j, 130 ≤ j → j < 256 → P j → j ≠ 133 → j ≠ 222 → C' j = C j) (hB : bkR P' q' C' cy (nb + 1) par' hgt' tim' bit' bad' rw' vl' mk' (slN sl nb)) : ldM P' q' C' cy ad (nb + 1) par' hgt' tim' bit' bad' rw' vl' mk' s := by
  obtain ⟨⟨i1, i2, i3, i4⟩, hB0, h130, hLu, hLh, hvL, hvH, hnd, hsi, hsn⟩ := h
  have hbL : ∀ x, x ∈ s.1 → x.1 < nb := fun x hx => (hvL x hx).1.1
  have hbH : ∀ x, x ∈ s.2.1 → x.1 < nb := fun x hx => (hvH x hx).1.1
  have eL : s.1.map (ck rw') = s.1.map (ck rw) := List.map_congr_left fun x hx => ck_x hg hpp hh (hbL x hx)
  have eH : s.2.1.map (ck rw') = s.2.1.map (ck rw) := List.map_congr_left fun x hx => ck_x hg hpp hh (hbH x hx)
  have e135 := hqe 135 (Or.inr rfl) (by decide)
  replace hqe : ∀ j, P j → j ≠ 222 → q' j = q j := fun j hj => hqe j (Or.inl hj)
  have nL : ∀ {ka : Nat}, ka = 220 ∨ ka = 221 → (P' ka ↔ P ka) := fun hk => by
    rw [hP _ (by omega)]
    exact ⟨fun z => z.resolve_right (by omega), Or.inl⟩
  refine ⟨slN sl nb, ⟨hq, fun k hk => (hP k (by omega)).mpr (Or.inl (i2 k hk)), fun z => ?_, e135.trans i4⟩, hB, ?_, ?_, ?_, fun x hx => (cVd_x hg hpp hh (hbL x hx) (Nat.le_succ _)).mpr (hvL x hx), fun x hx => (cVd_x hg hpp hh (hbH x hx) (Nat.le_succ _)).mpr (hvH x hx), hnd, fun i hi => ?_, fun x hx hn => ?_⟩
  · rcases (hP 223 (by decide)).mp z with z | z
    · exact i3 z
    · exact absurd z (by decide)
  · rw [hCe 130 (by decide) (by decide) (i2 130 (by decide)) (by decide) (by decide), hqe 131 (i2 131 (by decide)) (by decide), hqe 132 (i2 132 (by decide)) (by decide)]
    exact h130
  · rw [eL]
    exact alR_q hLu ⟨(hP 131 (by decide)).mpr (Or.inl hLu.1), nL (Or.inl rfl)⟩ e135 (fun z => hqe _ z (by decide)) (fun j hj => by
      obtain ⟨x, hx, e⟩ := List.mem_map.mp hj
      have hb := ck_b (rw := rw) x
      rw [← e]
      exact hqe _ (hB0.2 x (hvL x hx)).1 (by omega)) (hCe 131 (by decide) (by decide) (i2 131 (by decide)) (by decide) (by decide)) (fun z => hCe 220 (by decide) (by decide) z (by decide) (by decide))
  · rw [eH]
    exact alR_q hLh ⟨(hP 132 (by decide)).mpr (Or.inl hLh.1), nL (Or.inr rfl)⟩ e135 (fun z => hqe _ z (by decide)) (fun j hj => by
      obtain ⟨x, hx, e⟩ := List.mem_map.mp hj
      have hb := ck_b (rw := rw) x
      rw [← e]
      exact hqe _ (hB0.2 x (hvH x hx)).1 (by omega)) (hCe 132 (by decide) (by decide) (i2 132 (by decide)) (by decide) (by decide)) (fun z => hCe 221 (by decide) (by decide) z (by decide) (by decide))
  · unfold slN
    rw [if_neg (by have := hbL _ (gDe hi); omega)]
    exact hsi i hi
  · unfold slN
    by_cases z : x.1 = nb
    · rw [if_pos z]
    · rw [if_neg z]
      have hb : x.1 < nb := by
        have := hx.1.1
        omega
      exact hsn x ((cVd_x hg hpp hh hb (Nat.le_succ _)).mp hx) hn
set_option maxHeartbeats 400000 in
theorem mcX_sh {F : Type} [Lean.Grind.Field F] [DecidableEq F] {c : Int → F} {C C' : Nat → va_E} {q q' : Nat → Nat} {cy : Nat → ClassId} (h : mcX c C q cy) (hs : shX C' q' cy) (e : ∀ k, k < 120 ∧ k ≠ 29 → k ≠ 103 → k ≠ 104 → k ≠ 105 → (k < 106 ∨ 109 < k) → C' k = C k) (eq : ∀ k, k < 138 ∧ k ≠ 29 ∧ k ≠ 137 ∧ k ≠ 135 → q' k = q k) : mcX c C' q' cy := by
  obtain ⟨h, oh, op, i1, i2, fr, ly, tx, inn, co, mit, D, m, o, tk, se, ⟨⟨a1, a2, a3, a4, a5⟩, -, ⟨r0, r1, r2, r3, r4, t1, t2, t3, t4⟩, ⟨R, L, B, v1, v2, v3⟩⟩, e116, hD, hs'⟩ := h
  have e' : ∀ k, k < 120 → 110 ≤ k → C' k = C k := fun k a b => e k (by omega) (by omega) (by omega) (by omega) (by omega)
  refine ⟨h, oh, op, i1, i2, fr, ly, tx, inn, co, mit, D, m, o, tk, se, ⟨⟨(e' 110 (by decide) (by decide)).trans (a1.trans (maO_q eq _ _ _ _ _ _ _ _ _ _ _).symm), (e 102 (by decide) (by decide) (by decide) (by decide) (by decide)).trans a2, (e' 117 (by decide) (by decide)).trans a3, (e' 118 (by decide) (by decide)).trans a4, (e' 119 (by decide) (by decide)).trans a5⟩, hs, ⟨(e' 111 (by decide) (by decide)).trans (r0.trans ?_), r1, r2, r3, r4, (e' 112 (by decide) (by decide)).trans t1, (e' 113 (by decide) (by decide)).trans t2, (e' 114 (by decide) (by decide)).trans t3, (e' 115 (by decide) (by decide)).trans t4⟩, ⟨R, L, B, fun k hk => (e k (by omega) (by omega) (by omega) (by omega) (by omega)).trans ((v1 k hk).trans (sgC_q (fun j hj => eq j (by omega)) hk.1).symm), sgQ_q (fun j hj => eq j (by omega)) v2, v3⟩⟩, (e' 116 (by decide) (by decide)).trans e116, hD, hs'⟩
  rw [eq 112 (by decide), eq 113 (by decide), eq 114 (by decide), eq 115 (by decide)]
set_option maxHeartbeats 400000 in
theorem lyX_q {C C' : Nat → va_E} {q q' : Nat → Nat} {cy : Nat → ClassId} (h : lyX C q cy) (e : ∀ k, 120 ≤ k → k < 130 → C' k = C k ∧ q' k = q k) : lyX C' q' cy := by
  obtain ⟨rv, i1, i2, i3, i4, i5, u3, u4, u5, u6, u7, u8, u9, u10, u11, a0, a1, a2, a3, a4, a5, a6, a7, a8, a9⟩ := h
  exact ⟨rv, i1, i2, i3, i4, i5, u3, u4, u5, u6, u7, u8, u9, u10, u11, (e 120 (by decide) (by decide)).1.trans (a0.trans (laO_q (fun j a b => (e j a b).2) _ _ _ _ _ _).symm), (e 121 (by decide) (by decide)).1.trans a1, (e 122 (by decide) (by decide)).1.trans a2, (e 123 (by decide) (by decide)).1.trans a3, (e 124 (by decide) (by decide)).1.trans a4, (e 125 (by decide) (by decide)).1.trans a5, (e 126 (by decide) (by decide)).1.trans a6, (e 127 (by decide) (by decide)).1.trans a7, (e 128 (by decide) (by decide)).1.trans a8, (e 129 (by decide) (by decide)).1.trans a9⟩
