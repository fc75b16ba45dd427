-- a row is taken, in the memory
set_option maxHeartbeats 400000 in
theorem kpO_q {q q' : Nat → Nat} {tp : Nat} (h : ∀ j, j < 138 ∧ j ≠ 29 ∧ j ≠ 137 ∧ j ≠ 135 → q' j = q j) (ht : q' (kB tp) = q (kB tp)) (rl tk ch : Int32) : kpO q' rl tp tk ch = kpO q rl tp tk ch := by
  unfold kpO
  rw [h 104 (by decide), h 105 (by decide), h 106 (by decide), h 0 (by decide), h 110 (by decide), h 120 (by decide), h 130 (by decide), h 133 (by decide), h 134 (by decide), ht]
set_option maxHeartbeats 400000 in
theorem blL_m {nb j : Nat} (h : j ∈ blL nb) : ∃ b, b < nb ∧ j = kB b := by
  obtain ⟨b, hb, e⟩ := List.mem_map.mp h
  exact ⟨b, List.mem_range.mp hb, e.symm⟩
set_option maxHeartbeats 400000 in
theorem blL_s (nb : Nat) : blL (nb + 1) = blL nb ++ [kB nb] := by
  unfold blL
  rw [List.range_succ, List.map_append]
  rfl
set_option maxHeartbeats 8000000 in
theorem w_take (fu MC MS : Nat) (cy : Nat → ClassId) (ad : Nat → Nat) (mi : Nat) (hfu : 4000 ≤ fu) {P : Nat → Prop} {q : Nat → Nat} {C : Nat → va_E} {M : Mm} (hM : RG P q C M) (hq : IJ P q) (hP : ∀ k, k < 138 ∧ k ≠ 29 ∧ k ≠ 137 ∧ k ≠ 135 → P k) (h223 : ¬ P 223) (had : q 135 = ad 26) {nb : Nat} {par hgt tim : Nat → Nat} {bit : Nat → Int32} {bad : Nat → Bool} {rw : Nat → List Int32} {vl : Nat → Bool} {mk : Nat → Nat} {sl : Cn → Int32} (hfr : ∀ j, kB nb ≤ j → ¬ P j) (hB : bkR P q C cy nb par hgt tim bit bad rw vl mk sl) (hnb : 1 ≤ nb ∧ nb ≤ 200) (hp : ∀ k, 0 < k → par k < k) (hh2 : ∀ k, k < nb → hgt k ≤ 57) (ht : ∀ k, k < nb → gT (bit k) (hgt k / 8) ∧ tim k < 2 ^ 32) (hdi : ∀ k k', k < nb → k' < nb → bl (bIf rw k) 0 32 = bl (bIf rw k') 0 32 → k = k') {rl tk ch : Int32} {tp cap : Nat} (htp : tp < nb) (hK : C 103 = kpO q rl tp tk ch) (hL : alR P q C cy 133 222 (blL nb) cap) (hcap : cap ≤ 60000) {g gi : Nat → Int32} (h104 : C 104 = .inl (cy 0, 3000, .inl g)) (h105 : C 105 = .inl (cy 0, 32, .inl gi)) (hgi : ftB gi) (hs : shX C q cy) {r : List Int32} (hr : r.length ≤ 3000) (hg : ∀ j, j < r.length → g j = lf r j) (hf : ftB (lf r)) {p : Nat} (hrf : rfR rw nb par hgt tim bit (fun k => bad k = true) r 0 p) (hgd : ∀ j, j < 32 → gi j = dbl (lf r) 80 j) {u3 u4 u5 u6 u7 u8 u9 u10 u11 : Nat → Int32} (hl : lyR C q cy (.ref (q 104)) r.length (rTL r) u3 u4 u5 u6 u7 u8 u9 u10 u11) {κ σ : Nat} (hκ : κ + 5 + nOut (rTL r) + dcp cap nb ≤ MC ∧ σ + r.length + 76 + 32 * (rTL r).length + 11 * nOut (rTL r) + 4 * dcp cap nb ≤ MS) {Φ : Option Nat → Mm → Prop} (hΦ : ∀ M' P' q' C', RG P' q' C' M' → IJ P' q' → (∀ j, j < 256 → (P' j ↔ P j ∨ j = 222)) → (∀ j, kB (nb + 1) ≤ j → ¬ P' j) → (∀ j, P j ∨ j = 135 → j ≠ 222 → q' j = q j) → (∀ j, j < 256 → P j → j ≠ 103 → (j < 106 ∨ 109 < j) → j ≠ 133 → j ≠ 222 → C' j = C j) → C' 103 = kpO q' rl tp (tk + nI r.length) ch → shX C' q' cy → alR P' q' C' cy 133 222 (blL (nb + 1)) (ncp cap nb) → bkR P' q' C' cy (nb + 1) (upW par nb p) (upW hgt nb (hgt p + 1)) (upW tim nb (rTm r)) (upW bit nb (rBi r)) (upW bad nb false) (upW rw nb r) (upW vl nb false) (upW mk nb 0) (slN sl nb) → Φ (some (q' (kB nb))) M') : xw_mK_take fu MC MS cy ad mi Φ κ σ M (q 103) (nI r.length) := by
  obtain ⟨⟨TL, hTL⟩, -, ⟨hpn, hpe⟩, -, hwn, hsn⟩ := rfR_0 hrf
  have eTL : rTL r = TL := by
    unfold rTL
    rw [hTL]
    rfl
  obtain ⟨h80, a0, a1, a2, hT⟩ := pBl_B hTL
  rw [← eTL] at hT
  have hn0 : 0 < (rTL r).length := by
    have := hsn.2.1
    rw [List.length_map] at this
    exact this
  have hnn := txB_n (rTL r) a0 hT
  obtain ⟨e, m, gb1, -⟩ := wn_gT hwn (ht p hpn).1 (hh2 p hpn)
  have k256 : 256 ≤ kB nb := by unfold kB; omega
  have hkb : ∀ b, b < nb → kB b + 512 ≤ kB nb := fun b hb => by unfold kB; omega
  have nP : ∀ j, P j → j < kB nb := fun j hj => by
    rcases Nat.lt_or_ge j (kB nb) with z | z
    · exact z
    · exact absurd hj (hfr j z)
  have pB := fun b (hb : b < nb) => (hB.1 b hb).1.1
  unfold xw_mK_take
  rw [nI_clamp (n := r.length) (by omega)]
  refine ⟨⟨fun z => absurd ((nI_ltI (a := r.length) (b := 0) (by omega) (by omega)).mp z) (by omega), by show r.length * 1 ≤ 536870912; omega⟩, by omega, g_nwX hM hq (k := kB nb + 1) (hfr _ (by omega)) (fun a1 M1 P1 q1 C1 hM1 hq1 p1 e1 k1 c1 d1 => ?_)⟩
  subst k1
  rw [← e1 103 (by omega)]
  have S1 : ∀ j, P j → P1 j ∧ q1 j = q j ∧ C1 j = C j := fun j hj => by
    have := nP j hj
    exact ⟨(p1 j).mpr (Or.inl hj), e1 j (by omega), c1 j (by omega)⟩
  have hK1 : C1 103 = kpO q1 rl tp tk ch := (c1 103 (by omega)).trans (hK.trans (kpO_q (fun j hj => (S1 j (hP j hj)).2.1) (S1 _ (pB tp htp)).2.1 _ _ _).symm)
  refine m_gr (g_at hM1 (S1 _ (hP 103 (by decide))).1 hK1) rfl ?_
  refine g_cy hM1 hq1 (S1 _ (hP 104 (by decide))).1 ((p1 _).mpr (Or.inr rfl)) ((S1 _ (hP 104 (by decide))).2.2.trans h104) d1 (sp := 0) (dp := 0) (m := r.length) (by omega) (by omega) (by decide) (by omega) (bfit_nI (by decide) (by omega) (fun j hj => by rw [Nat.zero_add, hg j hj]; exact hf j)) (fun M2 hM2 => ?_)
  have eRaw : va_cpy g (fun _ => 0) 0 0 r.length = lf r := by
    funext j
    by_cases z : j < r.length
    · rw [pk_cpy_in (by omega) (by omega), Nat.sub_zero, Nat.zero_add]
      exact hg j z
    · rw [pk_cpy_out (by omega)]
      unfold lf
      rw [List.getD_eq_getElem?_getD, List.getElem?_eq_none (by omega)]
      rfl
  rw [eRaw] at hM2
  refine ⟨by omega, g_nwX hM2 hq1 (k := kB nb) (fun z => ?_) (fun a2 M3 P3 q3 C3 hM3 hq3 p3 e3 k3 c3 dd3 => ?_)⟩
  · rcases (p1 _).mp z with z | z
    · exact hfr _ (Nat.le_refl _) z
    · omega
  subst k3
  rw [← e3 103 (by omega), ← e3 (kB nb + 1) (by omega)]
  have S3 : ∀ j, P j → P3 j ∧ q3 j = q j ∧ C3 j = C j := fun j hj => by
    have := nP j hj
    obtain ⟨x1, x2, x3⟩ := S1 j hj
    exact ⟨(p3 j).mpr (Or.inl x1), (e3 j (by omega)).trans x2, (c3 j (by omega)).trans ((up_n (by omega)).trans x3)⟩
  have N3 : P3 (kB nb + 1) ∧ C3 (kB nb + 1) = .inl (cy 0, r.length, .inl (lf r)) := ⟨(p3 _).mpr (Or.inl ((p1 _).mpr (Or.inr rfl))), (c3 _ (by omega)).trans up_e⟩
  have B3 : ∀ j, P3 j → P j ∨ j = kB nb + 1 ∨ j = kB nb := fun j hj => by
    rcases (p3 j).mp hj with z | z
    · rcases (p1 j).mp z with z | z
      · exact Or.inl z
      · exact Or.inr (Or.inl z)
    · exact Or.inr (Or.inr z)
  have hK3 : C3 103 = kpO q3 rl tp tk ch := (S3 _ (hP 103 (by decide))).2.2.trans (hK.trans (kpO_q (fun j hj => (S3 j (hP j hj)).2.1) (S3 _ (pB tp htp)).2.1 _ _ _).symm)
  have hB3 := bkR_q hB hp (fun k _ hk => S3 k hk)
  have hL3 : alR P3 q3 C3 cy 133 222 (blL nb) cap := alR_q hL ⟨(S3 _ (hP 133 (by decide))).1, ⟨fun z => by
    rcases B3 _ z with z | z | z
    · exact z
    · omega
    · omega, fun z => (S3 _ z).1⟩⟩ ((e3 135 (by unfold kB; omega)).trans (e1 135 (by unfold kB; omega))) (fun z => (S3 _ z).2.1) (fun j hj => by
    obtain ⟨b, hb, e⟩ := blL_m hj
    rw [e]
    exact (S3 _ (pB b hb)).2.1) (S3 _ (hP 133 (by decide))).2.2 (fun z => (S3 _ z).2.2)
  have m103c := g_at hM3 (S3 _ (hP 103 (by decide))).1 hK3
  refine m_gr m103c rfl (m_ck m103c ⟨0, 0, by omega, ?_⟩)
  unfold xw_mK_blockOf
  have eR : bl g 4 32 = bl (lf r) 4 32 := bl_c _ _ _ fun j hj => hg _ (by omega)
  refine w_bOf fu 0 0 cy ad mi (by omega) hq3 hB3 hnb.2 (S3 _ (hP 103 (by decide))).1 hK3 hL3 (S3 _ (hP 104 (by decide))).1 (by decide) ((S3 _ (hP 104 (by decide))).2.2.trans h104) (a := 4) (by decide) (by decide) (by omega) (fun M4 hM4 hno => absurd (hpe.trans eR.symm) (hno p hpn)) (fun M4 b hM4 hbn he _ => ?_) nb 0 fu M3 (Nat.zero_add _) (by omega) hM3 (fun b h => absurd h (Nat.not_lt_zero _))
  have ebp := hdi b p hbn hpn (he.trans (eR.trans hpe.symm))
  subst ebp
  have hkp := hkb b hbn
  refine m_gr (g_at hM4 (S3 _ (hP 103 (by decide))).1 hK3) rfl ⟨32, gi, g_at hM4 (S3 _ (hP 105 (by decide))).1 ((S3 _ (hP 105 (by decide))).2.2.trans h105), fun i _ => hgi i, by omega, g_nwX hM4 hq3 (k := kB nb + 2) (fun z => ?_) (fun a3 M5 P5 q5 C5 hM5 hq5 p5 e5 k5 c5 dd5 => ?_)⟩
  · rcases B3 _ z with z | z | z
    · exact hfr _ (by omega) z
    · omega
    · omega
  subst k5
  rw [← e5 103 (by omega), ← e5 (kB nb) (by omega), ← e5 (kB nb + 1) (by omega), ← e5 (kB b) (by omega)]
  have S5 : ∀ j, P j → P5 j ∧ q5 j = q j ∧ C5 j = C j := fun j hj => by
    have := nP j hj
    obtain ⟨x1, x2, x3⟩ := S3 j hj
    exact ⟨(p5 j).mpr (Or.inl x1), (e5 j (by omega)).trans x2, (c5 j (by omega)).trans x3⟩
  have hK5 : C5 103 = kpO q5 rl tp tk ch := (S5 _ (hP 103 (by decide))).2.2.trans (hK.trans (kpO_q (fun j hj => (S5 j (hP j hj)).2.1) (S5 _ (pB tp htp)).2.1 _ _ _).symm)
  have hl5 : lyR C5 q5 cy (.ref (q5 104)) r.length (rTL r) u3 u4 u5 u6 u7 u8 u9 u10 u11 := by
    rw [(S5 _ (hP 104 (by decide))).2.1]
    exact lyR_q hl (fun k k1 k2 => ⟨(S5 k (hP k (by omega))).2.2, (S5 k (hP k (by omega))).2.1⟩)
  have m103d := g_at hM5 (S5 _ (hP 103 (by decide))).1 hK5
  refine m_ln (g_at hM5 ((p5 _).mpr (Or.inr rfl)) dd5) (m_gr m103d rfl (m_gr m103d rfl (m_ck (g_at hM5 (S5 _ (hP 120 (by decide))).1 hl5.1.1) ⟨1, 32 * (rTL r).length + 32, by omega, ?_⟩)))
  refine w_ids fu 1 (32 * (rTL r).length + 32) cy ad mi hfu hM5 hq5 (fun k hk => (S5 k (hP k hk)).1) (shX_q hs (fun k k1 k2 => ⟨(S5 k (hP k (by omega))).2.2, (S5 k (hP k (by omega))).2.1⟩)) (ks := 104) (kd := kB nb + 3) (S5 _ (hP 104 (by decide))).1 (fun z => ?_) (by decide) (fun j hj => by rw [hg j hj]; exact hf j) hr hr (by decide) hT hl5 ((S5 _ (hP 104 (by decide))).2.2.trans h104) (by omega) (fun a4 M6 C6 gI b1 b2 b3 b4 b5 b6 b7 b8 => ⟨a4, rfl, ?_⟩)
  · rcases (p5 _).mp z with z | z
    · rcases B3 _ z with z | z | z
      · exact hfr _ (by omega) z
      · omega
      · omega
    · omega
  obtain ⟨P6, hP6⟩ : ∃ P6 : Nat → Prop, P6 = fun j => P5 j ∨ j = kB nb + 3 := ⟨_, rfl⟩
  obtain ⟨q6, hq6⟩ : ∃ q6 : Nat → Nat, q6 = va_up q5 (kB nb + 3) a4 := ⟨_, rfl⟩
  have p6 : ∀ j, P6 j ↔ P5 j ∨ j = kB nb + 3 := fun j => by rw [hP6]
  have e6 : ∀ j, j ≠ kB nb + 3 → q6 j = q5 j := fun j hj => by rw [hq6]; exact up_n hj
  have k6 : q6 (kB nb + 3) = a4 := by rw [hq6]; exact up_e
  rw [← hP6, ← hq6] at b1
  rw [← hP6, ← hq6] at b2
  rw [← hq6] at b3
  clear hP6 hq6
  subst k6
  rw [← e6 103 (by omega), ← e6 (kB nb) (by omega), ← e6 (kB nb + 1) (by omega), ← e6 (kB nb + 2) (by omega), ← e6 (kB b) (by omega)]
  have S6 : ∀ j, P j → P6 j ∧ q6 j = q j ∧ ((j < 106 ∨ 109 < j) → C6 j = C j) := fun j hj => by
    have := nP j hj
    obtain ⟨x1, x2, x3⟩ := S5 j hj
    exact ⟨(p6 j).mpr (Or.inl x1), (e6 j (by omega)).trans x2, fun z => (b8 j z (by omega)).trans x3⟩
  have B6 : ∀ j, P6 j → P j ∨ (kB nb ≤ j ∧ j ≤ kB nb + 3) := fun j hj => by
    rcases (p6 j).mp hj with z | z
    · rcases (p5 j).mp z with z | z
      · rcases B3 _ z with z | z | z
        · exact Or.inl z
        · exact Or.inr ⟨by omega, by omega⟩
        · exact Or.inr ⟨by omega, by omega⟩
      · exact Or.inr ⟨by omega, by omega⟩
    · exact Or.inr ⟨by omega, by omega⟩
  have hK6 : C6 103 = kpO q6 rl tp tk ch := ((S6 _ (hP 103 (by decide))).2.2 (by decide)).trans (hK.trans (kpO_q (fun j hj => (S6 j (hP j hj)).2.1) (S6 _ (pB tp htp)).2.1 _ _ _).symm)
  have n61 : P6 (kB nb + 1) ∧ C6 (kB nb + 1) = .inl (cy 0, r.length, .inl (lf r)) := ⟨(p6 _).mpr (Or.inl ((p5 _).mpr (Or.inl N3.1))), (b8 _ (by omega) (by omega)).trans ((c5 _ (by omega)).trans N3.2)⟩
  have n62 : P6 (kB nb + 2) ∧ C6 (kB nb + 2) = .inl (cy 0, 32, .inl gi) := ⟨(p6 _).mpr (Or.inl ((p5 _).mpr (Or.inr rfl))), (b8 _ (by omega) (by omega)).trans dd5⟩
  have n63 : P6 (kB nb + 3) := (p6 _).mpr (Or.inr rfl)
  have n60 : P6 (kB nb) := (p6 _).mpr (Or.inl ((p5 _).mpr (Or.inl ((p3 _).mpr (Or.inr rfl)))))
  have z60 := (b8 (kB nb) (by omega) (by omega)).trans ((c5 (kB nb) (by omega)).trans dd3)
  have hB6 := bkR_q (P' := P6) (q' := q6) (C' := C6) hB hp (fun k k1 hk => ⟨(S6 k hk).1, (S6 k hk).2.1, (S6 k hk).2.2 (by omega)⟩)
  refine ⟨0, 0, by omega, w_Blk fu 0 0 cy ad mi (by omega) (P := P6) (q := q6) (C := C6) (kb := kB nb) (RG_c b1 (fun k _ => ?_)) b2 (kp := kB b) (kr := kB nb + 1) (kd := kB nb + 2) (ke := kB nb + 3) n60 ⟨(S6 _ (pB b hbn)).1, by omega⟩ ⟨n61.1, by omega⟩ (hB6.1 b hbn).2.1 rfl rfl n61.2 ⟨h80, by omega⟩ gb1 (fun M7 hM7 => ?_)⟩
  · by_cases z : k = kB nb
    · rw [z, up_e, z60]
    · rw [up_n z]
  have c7 : ∀ {x : va_E} {j}, j ≠ kB nb → va_up C6 (kB nb) x j = C6 j := fun h => up_n h
  have hl6 : lyR C6 q6 cy (.ref (q6 104)) r.length (rTL r) u3 u4 u5 u6 u7 u8 u9 u10 u11 := by
    rw [(S6 _ (hP 104 (by decide))).2.1]
    exact lyR_q hl (fun k k1 k2 => ⟨(S6 k (hP k (by omega))).2.2 (by omega), (S6 k (hP k (by omega))).2.1⟩)
  have m103e := g_at hM7 (S6 _ (hP 103 (by decide))).1 ((c7 (by omega)).trans hK6)
  have m120e := g_at hM7 (S6 _ (hP 120 (by decide))).1 ((c7 (by omega)).trans hl6.1.1)
  have m123e := g_at hM7 (S6 _ (hP 123 (by decide))).1 ((c7 (by omega)).trans hl6.1.2.2.2.1)
  have hfo : u5 (rTL r).length = nI (nOut (rTL r)) := by
    obtain ⟨⟨-, -, -, -, -, x6⟩, -⟩ := laH_x (rTL r) 0 0 0 hl.2 ((rTL r).length - 1) (by omega)
    rw [Nat.zero_add, show (rTL r).length - 1 + 1 = (rTL r).length from by omega, List.take_length, Nat.zero_add] at x6
    exact x6
  refine m_gr m103e rfl (m_gr m120e rfl (m_gr m103e rfl (m_gi m120e rfl (m_ai m123e (inb_nI (by omega) (by decide)) ?_))))
  rw [nI_clamp (n := (rTL r).length) (by omega), hfo, nI_clamp (n := nOut (rTL r)) (by omega)]
  refine ⟨⟨fun z => absurd ((nI_ltI (a := nOut (rTL r)) (b := 0) (by omega) (by omega)).mp z) (by omega), by omega⟩, by omega, g_nwX hM7 b2 (k := kB nb + 4) (fun z => ?_) (fun a5 M8 P8 q8 C8 hM8 hq8 p8 e8 k8 c8 d8 => ?_)⟩
  · rcases B6 _ z with z | z
    · exact hfr _ (by omega) z
    · omega
  subst k8
  rw [← e8 103 (by omega), ← e8 (kB nb) (by omega)]
  have q8p : q8 (kB b) = q6 (kB b) := e8 _ (by omega)
  have eb8 : C8 (kB nb) = .inr (1, [.ref (q8 (kB b)), .ref (q8 (kB nb + 1)), .ref (q8 (kB nb + 2)), .ref (q8 (kB nb + 3)), .int (nI (hgt b + 1)), .long (lN (leP (lf r) 68 4)), .int (nI (leP (lf r) 72 4)), .long (lN (Wk e m + wrk par bit b)), .null, .int 0, .int 0, .int 0]) := by
    rw [c8 _ (by omega), up_e, e8 (kB b) (by omega), e8 (kB nb + 1) (by omega), e8 (kB nb + 2) (by omega), e8 (kB nb + 3) (by omega)]
  refine g_pt hM8 hq8 ((p8 _).mpr (Or.inl n60)) eb8 (show 8 < 12 by decide) (fun M9 hM9 => ?_)
  have ewk : Wk e m + wrk par bit b = wkX (rBi r) + wrk par bit b := by rw [wkX_e gb1]
  rw [ewk] at hM9
  obtain ⟨C9, hC9⟩ : ∃ C9, C9 = va_up C8 (kB nb) (blN q8 nb b (hgt b + 1) (wkX (rBi r) + wrk par bit b) r) := ⟨_, rfl⟩
  replace hM9 : RG P8 q8 C9 M9 := by rw [hC9]; exact hM9
  have S9 : ∀ j, P j → P8 j ∧ q8 j = q j ∧ ((j < 106 ∨ 109 < j) → C9 j = C j) := fun j hj => by
    have := nP j hj
    obtain ⟨x1, x2, x3⟩ := S6 j hj
    exact ⟨(p8 j).mpr (Or.inl x1), (e8 j (by omega)).trans x2, fun z => by rw [hC9, up_n (by omega), c8 j (by omega), up_n (by omega)]; exact x3 z⟩
  have N9 : ∀ j, kB nb < j → j ≠ kB nb + 4 → C9 j = C6 j := fun j h1 h2 => by rw [hC9, up_n (by omega), c8 j (by omega), up_n (by omega)]
  have hK9 : C9 103 = kpO q8 rl tp tk ch := ((S9 _ (hP 103 (by decide))).2.2 (by decide)).trans (hK.trans (kpO_q (fun j hj => (S9 j (hP j hj)).2.1) (S9 _ (pB tp htp)).2.1 _ _ _).symm)
  have hl9 : lyR C9 q8 cy (.ref (q8 104)) r.length (rTL r) u3 u4 u5 u6 u7 u8 u9 u10 u11 := by
    rw [(S9 _ (hP 104 (by decide))).2.1]
    exact lyR_q hl (fun k k1 k2 => ⟨(S9 k (hP k (by omega))).2.2 (by omega), (S9 k (hP k (by omega))).2.1⟩)
  have eb9 : C9 (kB nb) = blN q8 nb b (hgt b + 1) (wkX (rBi r) + wrk par bit b) r := by rw [hC9, up_e]
  have d9 : C9 (kB nb + 4) = .inl (cy 6, nOut (rTL r), .inr (.inr (.inr (.inr (fun _ => Option.none))))) := by rw [hC9, up_n (by omega)]; exact d8
  have B8 : ∀ j, P8 j → P j ∨ (kB nb ≤ j ∧ j ≤ kB nb + 4) := fun j hj => by
    rcases (p8 j).mp hj with z | z
    · rcases B6 _ z with z | z
      · exact Or.inl z
      · exact Or.inr ⟨by omega, by omega⟩
    · exact Or.inr ⟨by omega, by omega⟩
  have hs9 : shX C9 q8 cy := shX_q b3 (fun k k1 k2 => ⟨by rw [hC9, up_n (by omega), c8 k (by omega), up_n (by omega)], e8 k (by omega)⟩)
  refine w_tk79 fu MC MS cy ad mi (by omega) (P0 := P8) (q0 := q8) (C0 := C9) (nb := nb) (TL := rTL r) (gI := gI) (g := g) (fun k hk => (S9 k (hP k hk)).1) ⟨(p8 _).mpr (Or.inl n60), (p8 _).mpr (Or.inl n63), (p8 _).mpr (Or.inr rfl)⟩ (fun j hj z => ?_) hK9 hl9 hT (((S9 _ (hP 104 (by decide))).2.2 (by decide)).trans h104) hr eb9 rfl rfl ((N9 _ (by omega) (by omega)).trans b4) (KX := κ + 5 + nOut (rTL r)) (SX := σ + r.length + 76 + 32 * (rTL r).length + 11 * nOut (rTL r)) (by omega) (fun Pf Qf Cf Mf κf σf hI hκf => ?_) (rTL r).length 0 fu P8 q8 C9 M9 _ _ (Nat.zero_add _) (by omega) ⟨hM9, hq8, fun j => ⟨fun z => Or.inl z, fun z => ?_⟩, fun _ _ => rfl, fun _ _ _ => rfl, ⟨_, d9, fun i hi => absurd hi (Nat.not_lt_zero _)⟩, fun t j _ _ h3 => absurd h3 (Nat.not_lt_zero _)⟩ ?_
  · rcases B8 _ z with z | z
    · exact hfr _ (by omega) z
    · omega
  rotate_left
  · rcases z with z | z
    · exact z
    · have := z.2
      rw [List.take_zero] at this
      replace this : j < kB nb + 8 + 0 := this
      omega
  · rw [List.take_zero]
    show κ + 1 + 1 + 0 + 1 + 1 + 0 + 1 + (nOut (rTL r) - 0) ≤ _ ∧ σ + r.length + 12 + 0 + 32 + (32 * (rTL r).length + 32) + 0 + nOut (rTL r) + 10 * (nOut (rTL r) - 0) ≤ _
    omega
  have hI' := hI
  obtain ⟨hMf, hqf, pf, qf, cf, ⟨f, hf1, hf2⟩, hco⟩ := hI'
  have Sf : ∀ j, P j → Pf j ∧ Qf j = q j ∧ ((j < 106 ∨ 109 < j) → Cf j = C j) := fun j hj => by
    have := nP j hj
    obtain ⟨x1, x2, x3⟩ := S9 j hj
    exact ⟨(pf j).mpr (Or.inl x1), (qf j (Or.inl x1)).trans x2, fun z => (cf j x1 (by omega)).trans (x3 z)⟩
  have Bf : ∀ j, Pf j → P j ∨ kB nb ≤ j := fun j hj => by
    rcases (pf j).mp hj with z | z
    · rcases B8 _ z with z | z
      · exact Or.inl z
      · exact Or.inr z.1
    · exact Or.inr (by omega)
  have qf135 : Qf 135 = q 135 := (qf 135 (Or.inr rfl)).trans ((e8 135 (by unfold kB; omega)).trans ((e6 135 (by unfold kB; omega)).trans ((e5 135 (by unfold kB; omega)).trans ((e3 135 (by unfold kB; omega)).trans (e1 135 (by unfold kB; omega))))))
  have hLf : alR Pf Qf Cf cy 133 222 (blL nb) cap := alR_q hL ⟨(Sf _ (hP 133 (by decide))).1, ⟨fun z => by
    rcases Bf _ z with z | z
    · exact z
    · omega, fun z => (Sf _ z).1⟩⟩ qf135 (fun z => (Sf _ z).2.1) (fun j hj => by
    obtain ⟨b, hb, e⟩ := blL_m hj
    rw [e]
    exact (Sf _ (pB b hb)).2.1) ((Sf _ (hP 133 (by decide))).2.2 (by decide)) (fun z => (Sf _ z).2.2 (by decide))
  have f80 : P8 (kB nb) := (p8 _).mpr (Or.inl n60)
  have m103f := tkI_at hI (S9 _ (hP 103 (by decide))).1 (by omega) hK9
  obtain ⟨-, -, ee, mcc, h133f⟩ := al_s hLf
  have m133f : mat Mf (q8 133) (.inr (11, [.ref ee, .int (nI (blL nb).length), .int mcc])) := by
    rw [← qf 133 (Or.inl (S9 _ (hP 133 (by decide))).1)]
    exact g_at hMf (Sf _ (hP 133 (by decide))).1 h133f
  have ebf : Cf (kB nb) = blN q8 nb b (hgt b + 1) (wkX (rBi r) + wrk par bit b) r := (cf _ f80 (by omega)).trans eb9
  refine m_gr m103f rfl (m_ck m133f ⟨dcp cap nb, 4 * dcp cap nb, by omega, ?_⟩)
  rw [← qf 133 (Or.inl (S9 _ (hP 133 (by decide))).1), ← qf (kB nb) (Or.inl f80)]
  refine w_Add fu (dcp cap nb) (4 * dcp cap nb) cy ad mi hMf hqf hLf (by decide) (fun z => ?_) (qf135.trans had) (by decide) ((pf _).mpr (Or.inl f80)) ⟨by omega, by omega⟩ hcap (ci := 1) (Or.inl rfl) ⟨_, ebf⟩ (fun j hj => ?_) (by rw [blL_l]; omega) (fun M10 P10 q10 C10 hM10 hq10 p10 e10 c10 hL10 => ?_)
  · rcases Bf _ z with z | z
    · exact h223 z
    · omega
  · obtain ⟨b', hb', e⟩ := blL_m hj
    rw [e]
    have := hkb b' hb'
    have k2 : 256 ≤ kB b' := by unfold kB; omega
    exact ⟨(Sf _ (pB b' hb')).1, by omega, by omega, ⟨_, ((Sf _ (pB b' hb')).2.2 (by omega)).trans (hB.1 b' hb').2.1⟩⟩
  have q10e : ∀ j, P8 j → j ≠ 222 → q10 j = q8 j := fun j hj hn => (e10 j hn).trans (qf j (Or.inl hj))
  have hK10 : C10 103 = kpO q10 rl tp tk ch := (c10 103 (by decide) (by decide)).trans ((cf _ (S9 _ (hP 103 (by decide))).1 (by omega)).trans (hK9.trans (kpO_q (fun j hj => q10e j (S9 j (hP j hj)).1 (by omega)) (q10e _ (S9 _ (pB tp htp)).1 (by unfold kB; omega)) _ _ _).symm))
  have p103 : P10 103 := (p10 _).mpr (Or.inl (Sf _ (hP 103 (by decide))).1)
  have m103g := g_at hM10 p103 hK10
  rw [show q8 103 = q10 103 from (q10e 103 (S9 _ (hP 103 (by decide))).1 (by decide)).symm, show Qf (kB nb) = q10 (kB nb) from (e10 _ (by omega)).symm]
  refine m_gi m103g rfl (m_b (g_pt hM10 hq10 p103 hK10 (show 11 < 13 by decide) (fun M11 hM11 => ?_)))
  rw [blL_l] at hL10
  have n10 : ∀ {x : va_E} {j}, j ≠ 103 → va_up C10 103 x j = C10 j := fun h => up_n h
  have cf10 : ∀ j, 256 ≤ j → va_up C10 103 (.inr (0, [.ref (q10 104), .int rl, .ref (q10 105), .ref (q10 106), .ref (q10 0), .ref (q10 110), .ref (q10 120), .ref (q10 130), .ref (q10 133), .ref (q10 134), .ref (q10 (kB tp)), .int (tk + nI r.length), .int ch])) j = Cf j := fun j hj => (up_n (by omega)).trans (c10 j (by omega) (by omega))
  have Pk : ∀ j, Pf j → P10 j := fun j hj => (p10 j).mpr (Or.inl hj)
  refine hΦ M11 P10 q10 _ hM11 hq10 (fun j hj => ⟨fun z => ?_, fun z => ?_⟩) (fun j hj z => ?_) (fun j hj hn => (e10 j hn).trans (hj.elim (fun y => (Sf j y).2.1) (fun y => by subst y; exact qf135))) (fun j h256 hj h1 h2 h3 h4 => ?_) up_e ?_ ?_ ?_
  · rcases (p10 j).mp z with z | z
    · rcases Bf _ z with z | z
      · exact Or.inl z
      · omega
    · exact Or.inr z
  · rcases z with z | z
    · exact Pk j (Sf j z).1
    · exact (p10 j).mpr (Or.inr z)
  · have hk1 : kB (nb + 1) = kB nb + 512 := by unfold kB; omega
    rcases (p10 j).mp z with z | z
    · rcases (pf j).mp z with z | z
      · rcases B8 _ z with z | z
        · exact hfr _ (by omega) z
        · omega
      · omega
    · omega
  · rw [n10 h1, c10 j h3 h4]
    exact (Sf j hj).2.2 h2
  · exact shX_q hs9 (fun k k1 k2 => ⟨(n10 (by omega)).trans ((c10 k (by omega) (by omega)).trans (cf k (S9 k (hP k (by omega))).1 (by omega))), q10e k (S9 k (hP k (by omega))).1 (by omega)⟩)
  · rw [blL_s]
    exact alR_c hL10 (n10 (by decide)) (n10 (by decide))
  · refine bkR_new (gi := gi) (gI := gI) (g := g) (f := f) hB hnb.1 hp (fun k k1 hk => ⟨Pk k (Sf k hk).1, (e10 k (by omega)).trans (Sf k hk).2.1, (cf10 k k1).trans ((Sf k hk).2.2 (by omega))⟩) hbn ⟨Pk _ ((pf _).mpr (Or.inl f80)), Pk _ ((pf _).mpr (Or.inl ((p8 _).mpr (Or.inl n61.1)))), Pk _ ((pf _).mpr (Or.inl ((p8 _).mpr (Or.inl n62.1)))), Pk _ ((pf _).mpr (Or.inl ((p8 _).mpr (Or.inl n63)))), Pk _ ((pf _).mpr (Or.inl ((p8 _).mpr (Or.inr rfl))))⟩ ((cf10 _ (by omega)).trans (ebf.trans ?_)) ?_ ?_ hgd (by omega) ?_ (fun t ht j hj => ?_) ((cf10 _ (by omega)).trans hf1) (fun o ho => ?_) (fun t j ht hj => ?_) (fun t j ht hj => ?_)
    · unfold blN
      rw [q10e (kB b) (S9 _ (pB b hbn)).1 (by unfold kB; omega), q10e (kB nb + 1) ((p8 _).mpr (Or.inl n61.1)) (by omega), q10e (kB nb + 2) ((p8 _).mpr (Or.inl n62.1)) (by omega), q10e (kB nb + 3) ((p8 _).mpr (Or.inl n63)) (by omega), q10e (kB nb + 4) ((p8 _).mpr (Or.inr rfl)) (by omega)]
    · exact (cf10 _ (by omega)).trans ((cf _ ((p8 _).mpr (Or.inl n61.1)) (by omega)).trans ((N9 _ (by omega) (by omega)).trans n61.2))
    · exact (cf10 _ (by omega)).trans ((cf _ ((p8 _).mpr (Or.inl n62.1)) (by omega)).trans ((N9 _ (by omega) (by omega)).trans n62.2))
    · exact (cf10 _ (by omega)).trans ((cf _ ((p8 _).mpr (Or.inl n63)) (by omega)).trans ((N9 _ (by omega) (by omega)).trans b4))
    · rw [b6 t ht j hj]
      unfold idL rId
      obtain ⟨-, -, -, y1, -, y2⟩ := txB_at (rTL r) a0 hT _ (gDm ht)
      rw [dbl_c (m := fun i => g (((rTL r).getD t d5).1 + i)) (m' := fun i => lf r (((rTL r).getD t d5).1 + i)) (fun j hj => hg _ (by omega))]
    · rw [hf2 o ho, e10 _ (by omega)]
    · have hO := (txB_at (rTL r) a0 hT _ (gDm ht)).2.1 (((rTL r).getD t d5).2.2.2.1.getD j d3) (by rw [← gD3 _ hj]; exact List.getElem_mem hj)
      exact leP_c (fun i hi => hg _ (by omega))
    · have hm1 := nOut_m2 (rTL r) (t := t + 1) (t' := (rTL r).length) (by omega)
      rw [List.take_length, nOut_tk (rTL r) t ht] at hm1
      refine ⟨Pk _ ((pf _).mpr (Or.inr ⟨by omega, by omega⟩)), (cf10 _ (by omega)).trans ((hco t j ht hj (by omega)).trans ?_)⟩
      unfold coN
      rw [q10e _ f80 (by omega)]
