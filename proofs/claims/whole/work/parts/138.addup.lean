-- addUp
/-- the digits' sum, from the highest on -/
def hid (d : Nat → Int32) : Nat → Int
  | 0 => 0
  | r + 1 => 2 * hid d r + (d (256 - r)).toInt
set_option maxHeartbeats 400000 in
theorem hid_e (d : Nat → Int32) : ∀ r, r ≤ 257 → hid d r * 2 ^ (257 - r) + dS d (257 - r) = dS d 257
  | 0, _ => by
    show 0 * _ + _ = _
    rw [Int.zero_mul, Int.zero_add]
  | r + 1, h => by
    have ih := hid_e d r (by omega)
    rw [← ih]
    obtain ⟨m, hm⟩ : ∃ m, 257 - r = m + 1 := ⟨256 - r, by omega⟩
    have e1 : 257 - (r + 1) = m := by omega
    have e2 : 256 - r = m := by omega
    rw [hm, e1]
    show (2 * hid d r + (d (256 - r)).toInt) * 2 ^ m + dS d m = hid d r * 2 ^ (m + 1) + (dS d m + (d m).toInt * 2 ^ m)
    rw [e2, Int.pow_succ]
    generalize (2 : Int) ^ m = X
    generalize hid d r = Y
    generalize (d m).toInt = Z
    generalize dS d m = W
    grind
set_option maxHeartbeats 400000 in
theorem hid_257 (d : Nat → Int32) : hid d 257 = dS d 257 := by
  have := hid_e d 257 (by omega)
  rw [← this]
  show _ = hid d 257 * 1 + 0
  omega
set_option maxHeartbeats 400000 in
/-- a digit's place in the table -/
theorem dg_i {x : Int32} (h : dg x) (h0 : x ≠ 0) : ∃ i, i < 8 ∧ (if 0 ≤ x then x else 0 - x) >>> ((1 : Int32) &&& 31) = nI i ∧ ((0 ≤ x ∧ x.toInt = 2 * (i : Int) + 1) ∨ (¬ 0 ≤ x ∧ x.toInt = -(2 * (i : Int) + 1))) := by
  obtain ⟨h1, h2, h3⟩ := h
  have hn : x.toInt ≠ 0 := fun e => h0 (Int32.toInt_inj.mp e)
  have hx : ∀ v : Int32, x.toInt = v.toInt → x = v := fun v e => Int32.toInt_inj.mp e
  have cs : x.toInt = -15 ∨ x.toInt = -13 ∨ x.toInt = -11 ∨ x.toInt = -9 ∨ x.toInt = -7 ∨ x.toInt = -5 ∨ x.toInt = -3 ∨ x.toInt = -1 ∨ x.toInt = 1 ∨ x.toInt = 3 ∨ x.toInt = 5 ∨ x.toInt = 7 ∨ x.toInt = 9 ∨ x.toInt = 11 ∨ x.toInt = 13 ∨ x.toInt = 15 := by omega
  rcases cs with e | e | e | e | e | e | e | e | e | e | e | e | e | e | e | e
  · rw [hx (-15) e]; exact ⟨7, by decide⟩
  · rw [hx (-13) e]; exact ⟨6, by decide⟩
  · rw [hx (-11) e]; exact ⟨5, by decide⟩
  · rw [hx (-9) e]; exact ⟨4, by decide⟩
  · rw [hx (-7) e]; exact ⟨3, by decide⟩
  · rw [hx (-5) e]; exact ⟨2, by decide⟩
  · rw [hx (-3) e]; exact ⟨1, by decide⟩
  · rw [hx (-1) e]; exact ⟨0, by decide⟩
  · rw [hx 1 e]; exact ⟨0, by decide⟩
  · rw [hx 3 e]; exact ⟨1, by decide⟩
  · rw [hx 5 e]; exact ⟨2, by decide⟩
  · rw [hx 7 e]; exact ⟨3, by decide⟩
  · rw [hx 9 e]; exact ⟨4, by decide⟩
  · rw [hx 11 e]; exact ⟨5, by decide⟩
  · rw [hx 13 e]; exact ⟨6, by decide⟩
  · rw [hx 15 e]; exact ⟨7, by decide⟩
set_option maxHeartbeats 400000 in
theorem pQ_c {F : Type} [Lean.Grind.Field F] {c : Int → F} {L L' : Nat → Nat → Int64} {B B' : Nat → Nat → Int32} {P : Nat} {A : Option (F × F)} (h : pQ c L B P A) (h1 : ∀ k, P < k → k < P + 4 → L' k = L k) (h2 : B' P = B P) : pQ c L' B' P A := by
  unfold pQ at *
  rw [h1 (P + 1) (by omega) (by omega), h1 (P + 2) (by omega) (by omega), h1 (P + 3) (by omega) (by omega), h2]
  exact h
def bI {F : Type} [Lean.Grind.Field F] [DecidableEq F] (c : Int → F) (L : Nat → Nat → Int64) (B : Nat → Nat → Int32) : Prop := ∀ i, i < 8 → pQ c L B (30 + 4 * i) (sm (gG c) (2 * i + 1)) ∧ B (30 + 4 * i) 0 = 0
def kyI {F : Type} [Lean.Grind.Field F] [DecidableEq F] (c : Int → F) (K : Option (F × F)) (m : Nat) (L : Nat → Nat → Int64) (B : Nat → Nat → Int32) : Prop := ∀ i, i < m → pQ c L B (62 + 4 * i) (sm K (2 * i + 1)) ∧ B (62 + 4 * i) 0 = 0
def kU (L L' : Nat → Nat → Int64) (B B' : Nat → Nat → Int32) : Prop := (∀ k, k < 62 → ¬ (18 ≤ k ∧ k < 23) → L' k = L k) ∧ ∀ k, k < 62 ∨ k = 102 → B' k = B k
set_option maxHeartbeats 400000 in
theorem kU_t {L L' L'' : Nat → Nat → Int64} {B B' B'' : Nat → Nat → Int32} (h : kU L L' B B') {P : Nat} (hP : isP P) (h62 : 62 ≤ P) (h' : kQ1 P L' L'' B' B'') : kU L L'' B B'' := by
  refine ⟨fun k k1 k2 => by rw [h'.1 k k2 (by omega), h.1 k k1 k2], fun k k1 => ?_⟩
  have := hP.2.1
  rw [h'.2 k (by omega), h.2 k k1]
set_option maxHeartbeats 400000 in
theorem bI_k {F : Type} [Lean.Grind.Field F] [DecidableEq F] {c : Int → F} {L L' : Nat → Nat → Int64} {B B' : Nat → Nat → Int32} (h : bI c L B) (hk : kU L L' B B') : bI c L' B' := fun i hi => by
  have e : B' (30 + 4 * i) = B (30 + 4 * i) := hk.2 _ (Or.inl (by omega))
  exact ⟨pQ_c (h i hi).1 (fun k k1 k2 => hk.1 k (by omega) (by omega)) e, by rw [e]; exact (h i hi).2⟩
set_option maxHeartbeats 400000 in
theorem l_ad26 {F : Type} [Lean.Grind.Field F] [DecidableEq F] {c : Int → F} (hc : cH pP c) (fu : Nat) (hfu : 1200 ≤ fu) (MC MS : Nat) (cy : Nat → ClassId) (ad : Nat → Nat) (mi : Nat) (q : Nat → Nat) (hq : Ij 103 q) (n1 : Nat) (R : Nat → Nat → Option Nat) (hR : sgQ q R) (κ σ : Nat) (B0 : Nat → Nat → Int32) (L0 : Nat → Nat → Int64) (M0 : Mm) (Φ : Mm → Prop) {K : Option (F × F)} (hK : onC (c 7) K) (hK0 : K ≠ none) (hp98 : B0 98 1 = 0 ∨ B0 98 1 = 1) (hΦ : ∀ L B M, Rg 103 q (sgC q cy n1 R L B) M → fr 103 q M0 M → kU L0 L B0 B → kyI c K 8 L B → pQ c L B 98 none → xw_mSi_addUp_86 fu MC MS cy ad mi Φ fu κ σ M (q 0) (nI 257 + (-1))) : ∀ r i n L B M, i + r = 8 → 1 ≤ i → r < n → Rg 103 q (sgC q cy n1 R L B) M → fr 103 q M0 M → kU L0 L B0 B → B 98 = B0 98 → pQ c L B 94 (sm K 2) → B 94 0 = 0 → kyI c K i L B → xw_mSi_addUp_26 fu MC MS cy ad mi Φ n κ σ M (q 0) (nI i) := by
  intro r
  induction r with
  | zero =>
    intro i n L B M hi h1 hn hM hfr hk h98 h94 h940 hky
    obtain ⟨n, rfl⟩ : ∃ m, n = m + 1 := ⟨n - 1, by omega⟩
    have : i = 8 := by omega
    subst this
    show xv_mSi_addUp_26 fu MC MS cy ad mi Φ (xw_mSi_addUp_26 fu MC MS cy ad mi Φ n) κ σ M (q 0) (nI 8)
    unfold xv_mSi_addUp_26
    refine m_t (by decide) (m_gr (hM 0 (by decide)) rfl ?_)
    refine m_pt hM hq (k := 98) (by decide) rfl (show 3 < 5 by decide) (sgC q cy n1 R L (upF B 98 1 (B 98 1))) rfl (fun j _ hn => sgC_c rfl (up_n hn)) (fun M1 hM1 hf1 => ?_)
    have e98 : upF B 98 1 (B 98 1) 98 = fun j => if j = 0 then 1 else B 98 1 := up_e
    refine hΦ L _ M1 hM1 (fr_t hfr hf1) ⟨hk.1, fun k k1 => by unfold upF; rw [up_n (by omega)]; exact hk.2 k k1⟩ (fun i hi => ?_) ?_
    · have e : upF B 98 1 (B 98 1) (62 + 4 * i) = B (62 + 4 * i) := up_n (by omega)
      exact ⟨pQ_c (hky i hi).1 (fun _ _ _ => rfl) e, by rw [e]; exact (hky i hi).2⟩
    · unfold pQ
      rw [e98]
      exact ⟨by rw [h98]; exact hp98, Or.inr ⟨rfl, rfl⟩⟩
  | succ r ih =>
    intro i n L B M hi h1 hn hM hfr hk h98 h94 h940 hky
    obtain ⟨n, rfl⟩ : ∃ m, n = m + 1 := ⟨n - 1, by omega⟩
    show xv_mSi_addUp_26 fu MC MS cy ad mi Φ (xw_mSi_addUp_26 fu MC MS cy ad mi Φ n) κ σ M (q 0) (nI i)
    unfold xv_mSi_addUp_26
    have hin : inb (nI i) 8 = true := inb_nI (by omega) (by decide)
    have ei : (nI i).toNatClampNeg = i := nI_clamp (n := i) (by omega)
    refine m_f (show ¬ (8 : Int32) ≤ nI i from nI_ge (b := 8) (by omega) (by decide)) (m_gr (hM 0 (by decide)) rfl (m_ar (hM 5 (by decide)) hin (by rw [ei]; exact hR.2.2.2 i (by omega)) (m_gr (hM 0 (by decide)) rfl (m_bn (show nI i - (1 : Int32) = nI (i - 1) from pk_sub (b := 1) (by omega)) (m_ar (hM 5 (by decide)) (inb_nI (by omega) (by decide)) (by rw [nI_clamp (by omega)]; exact hR.2.2.2 (i - 1) (by omega)) ?_)))))
    have iP : isP (62 + 4 * i) := ⟨by omega, by omega, by omega⟩
    have iQ : isP (62 + 4 * (i - 1)) := ⟨by omega, by omega, by omega⟩
    have i94 : isP 94 := ⟨by omega, by omega, by omega⟩
    refine r_be fu hfu cy q hq n1 R B L M _ iP iQ (by omega) hM (hky (i - 1) (by omega)).1 (fun L1 B1 M1 hM1 hf1 hk1 hp1 hb1 => ?_)
    refine m_gr (hM1 0 (by decide)) rfl (m_gr (hM1 0 (by decide)) rfl (m_ar (hM1 5 (by decide)) hin (by rw [ei]; exact hR.2.2.2 i (by omega)) (m_gr (hM1 0 (by decide)) rfl ?_)))
    have e94 : B1 94 = B 94 := hk1.2 94 (by omega)
    refine r_ad hc fu hfu cy q hq n1 R B1 L1 M1 0 _ iP i94 (by omega) hM1 (sm_on hc hK _) (sm_on hc hK _) hp1 (pQ_c h94 (fun k k1 k2 => hk1.1 k (by omega) (by omega)) e94) (by rw [e94]; exact h940) (fun v L2 B2 M2 hM2 hf2 hk2 hv => m_b ?_)
    rw [nI_1]
    have hodd : 2 * (i - 1) + 1 + 2 = 2 * i + 1 := by omega
    have hres : pQ c L2 B2 (62 + 4 * i) (sm K (2 * i + 1)) := by
      rcases hv with ⟨-, hv⟩ | ⟨-, hv, -⟩
      · rw [if_pos rfl, ← sm_add hc hK, hodd] at hv
        exact hv
      · exfalso
        rw [if_pos rfl] at hv
        by_cases i1 : i = 1
        · subst i1
          have hv' : sm K 1 = sm K (1 + 1) := hv
          rw [sm_add hc hK, sm_1] at hv'
          have := g_b hc hK hK
          rw [← hv', ea_en] at this
          exact hK0 this.symm
        · have e : 2 * (i - 1) + 1 = (2 * i - 3) + 2 := by omega
          rw [e, sm_add hc hK] at hv
          have o2 := sm_on hc hK 2
          have o3 := sm_on hc hK (2 * i - 3)
          have := g_b hc o3 o2
          rw [hv, ea_en] at this
          exact sm_ne hc hK hK0 (m := 2 * i - 3) (by omega) (by omega) this.symm
    have hno : B2 (62 + 4 * i) 0 = 0 := by
      rcases hres.2 with ⟨e, -⟩ | ⟨-, e⟩
      · exact e
      · exact absurd e (sm_ne hc hK hK0 (by omega) (by omega))
    refine ih (i + 1) n L2 B2 M2 (by omega) (by omega) (by omega) hM2 (fr_t hfr (fr_t hf1 hf2)) (kU_t (kU_t hk iP (by omega) hk1) iP (by omega) hk2) ?_ ?_ ?_ (fun j hj => ?_)
    · rw [hk2.2 98 (by omega), hk1.2 98 (by omega), h98]
    · exact pQ_c (pQ_c h94 (fun k k1 k2 => hk1.1 k (by omega) (by omega)) e94) (fun k k1 k2 => hk2.1 k (by omega) (by omega)) (hk2.2 94 (by omega))
    · rw [hk2.2 94 (by omega), e94]; exact h940
    · by_cases hji : j = i
      · rw [hji]; exact ⟨hres, hno⟩
      · have hh := hky j (by omega)
        have e1 : B1 (62 + 4 * j) = B (62 + 4 * j) := hk1.2 _ (by omega)
        have e2 : B2 (62 + 4 * j) = B1 (62 + 4 * j) := hk2.2 _ (by omega)
        exact ⟨pQ_c (pQ_c hh.1 (fun k k1 k2 => hk1.1 k (by omega) (by omega)) e1) (fun k k1 k2 => hk2.1 k (by omega) (by omega)) e2, by rw [e2, e1]; exact hh.2⟩
def kQ8 (L L' : Nat → Nat → Int64) (B B' : Nat → Nat → Int32) : Prop := (∀ k, k < 98 → ¬ (18 ≤ k ∧ k < 23) → L' k = L k) ∧ ∀ k, k ≠ 98 → B' k = B k
set_option maxHeartbeats 400000 in
theorem kQ8_1 {L L' : Nat → Nat → Int64} {B B' : Nat → Nat → Int32} (h : kQ1 98 L L' B B') : kQ8 L L' B B' := ⟨fun k k1 k2 => h.1 k k2 (by omega), h.2⟩
set_option maxHeartbeats 400000 in
theorem kQ8_t {L L' L'' : Nat → Nat → Int64} {B B' B'' : Nat → Nat → Int32} (h : kQ8 L L' B B') (h' : kQ8 L' L'' B' B'') : kQ8 L L'' B B'' := ⟨fun k k1 k2 => by rw [h'.1 k k1 k2, h.1 k k1 k2], fun k k1 => by rw [h'.2 k k1, h.2 k k1]⟩
set_option maxHeartbeats 400000 in
theorem kQ8_r (L : Nat → Nat → Int64) (B : Nat → Nat → Int32) : kQ8 L L B B := ⟨fun _ _ _ => rfl, fun _ _ => rfl⟩
set_option maxHeartbeats 400000 in
theorem pQ_8 {F : Type} [Lean.Grind.Field F] {c : Int → F} {L L' : Nat → Nat → Int64} {B B' : Nat → Nat → Int32} {P : Nat} {A : Option (F × F)} (hP : isP P) (h98 : P < 98) (h : pQ c L B P A) (hk : kQ8 L L' B B') : pQ c L' B' P A := by
  obtain ⟨p1, p2, p3⟩ := hP
  exact pQ_c h (fun k k1 k2 => hk.1 k (by omega) (by omega)) (hk.2 P (by omega))
set_option maxHeartbeats 400000 in
/-- a digit's multiple is added -/
theorem l_ad143 {F : Type} [Lean.Grind.Field F] [DecidableEq F] {c : Int → F} (hc : cH pP c) (fu : Nat) (hfu : 1200 ≤ fu) (MC MS : Nat) (cy : Nat → ClassId) (ad : Nat → Nat) (mi : Nat) (q : Nat → Nat) (hq : Ij 103 q) (n1 : Nat) (R : Nat → Nat → Option Nat) (hR : sgQ q R) (κ σ : Nat) (Φ : Mm → Prop) (k86 : Nat → Nat → Mm → Nat → Int32 → Prop) (k103 : Nat → Nat → Mm → Nat → Int32 → Int32 → Prop) (L : Nat → Nat → Int64) (B : Nat → Nat → Int32) (M : Mm) {A X : Option (F × F)} {T0 rk : Nat} (hT0 : (T0 = 30 ∧ rk = 4) ∨ (T0 = 62 ∧ rk = 5)) (hA : onC (c 7) A) (hX : onC (c 7) X) (hM : Rg 103 q (sgC q cy n1 R L B) M) (hS : pQ c L B 98 A) (hT : ∀ i, i < 8 → pQ c L B (T0 + 4 * i) (sm X (2 * i + 1)) ∧ B (T0 + 4 * i) 0 = 0) (x1 x2 x3 : Int32) (hd : dg x3) (hK : ∀ L' B' M', Rg 103 q (sgC q cy n1 R L' B') M' → fr 103 q M M' → kQ8 L L' B B' → pQ c L' B' 98 (ea A (zm X x3.toInt)) → k103 κ σ M' (q 0) x1 (x2 + 1)) : xv_mSi_addUp_143 fu MC MS cy ad mi Φ k86 k103 κ σ M (q 0) x1 x2 x3 (q rk) := by
  unfold xv_mSi_addUp_143
  refine m_if (fun g => ?_) (fun g => ?_)
  · unfold xv_mSi_addUp_192
    refine m_b (hK L B M hM (fr_r _ _ _) (kQ8_r _ _) ?_)
    rw [g, show (0 : Int32).toInt = 0 from rfl, zm_0, ea_0n]
    exact hS
  obtain ⟨i, hi, ei, hs⟩ := dg_i hd g
  have hin : inb (nI i) 8 = true := inb_nI (by omega) (by decide)
  have hQ : isP (T0 + 4 * i) := ⟨by omega, by omega, by omega⟩
  have h98 : isP 98 := ⟨by decide, by decide, by decide⟩
  refine m_gr (hM 0 (by decide)) rfl (m_gr (hM 0 (by decide)) rfl (m_b (m_bn ei ?_)))
  have har : ∀ K : Nat → Prop, K (q (T0 + 4 * i)) → mar M (q rk) (cy 4) (nI i) (fun r => oss r K) := by
    intro K hK
    rcases hT0 with ⟨e1, e2⟩ | ⟨e1, e2⟩
    · subst e1 e2
      exact m_ar (hM 4 (by decide)) hin (by rw [nI_clamp (by omega)]; exact hR.2.2.1 i hi) hK
    · subst e1 e2
      exact m_ar (hM 5 (by decide)) hin (by rw [nI_clamp (by omega)]; exact hR.2.2.2 i hi) hK
  refine har _ ?_
  have step : ∀ mn : Int32, (if mn = 0 then sm X (2 * i + 1) else en (sm X (2 * i + 1))) = zm X x3.toInt → xv_mSi_addUp_175 fu MC MS cy ad mi Φ k86 k103 κ σ M (q 0) x1 x2 mn (q (T0 + 4 * i)) (q 98) (q 1) := by
    intro mn hmn
    unfold xv_mSi_addUp_175
    refine r_ad hc fu hfu cy q hq n1 R B L M mn _ h98 hQ (by omega) hM hA (sm_on hc hX _) hS (hT i hi).1 (hT i hi).2 (fun v L1 B1 M1 hM1 hf1 hk1 hv => ?_)
    rw [hmn] at hv
    rcases hv with ⟨v1, hv⟩ | ⟨v0, e, hv⟩
    · refine m_f (by rw [v1]; exact one_ne) ?_
      unfold xv_mSi_addUp_192
      exact m_b (hK L1 B1 M1 hM1 hf1 (kQ8_1 hk1) hv)
    · refine m_t v0 (m_gr (hM1 0 (by decide)) rfl (m_gr (hM1 0 (by decide)) rfl ?_))
      refine r_tw hc fu hfu cy q hq n1 R B1 L1 M1 _ h98 hM1 hA hv (fun L2 B2 M2 hM2 hf2 hk2 hv2 => ?_)
      unfold xv_mSi_addUp_192
      refine m_b (hK L2 B2 M2 hM2 (fr_t hf1 hf2) (kQ8_t (kQ8_1 hk1) (kQ8_1 hk2)) ?_)
      rw [← e]
      exact hv2
  have e1 : zm X (2 * (i : Int) + 1) = sm X (2 * i + 1) := by
    rw [show (2 * (i : Int) + 1) = ((2 * i + 1 : Nat) : Int) from by omega, zm_nat]
  rcases hs with ⟨g0, hv⟩ | ⟨g0, hv⟩
  · exact m_t g0 (step 0 (by rw [if_pos rfl, hv, e1]))
  · exact m_f g0 (step 1 (by rw [if_neg one_ne, hv, zm_neg hc hX, e1]))
/-- the sum after r of the 257 rounds -/
def suR {F : Type} [Lean.Grind.Field F] [DecidableEq F] (c : Int → F) (K : Option (F × F)) (d e : Nat → Int32) (r : Nat) : Option (F × F) := ea (zm (gG c) (hid d r)) (zm K (hid e r))
set_option maxHeartbeats 400000 in
theorem suR_s {F : Type} [Lean.Grind.Field F] [DecidableEq F] {c : Int → F} (hc : cH pP c) {K : Option (F × F)} (hK : onC (c 7) K) (d e : Nat → Int32) (r : Nat) : ea (ea (ea (suR c K d e r) (suR c K d e r)) (zm (gG c) (d (256 - r)).toInt)) (zm K (e (256 - r)).toInt) = suR c K d e (r + 1) := by
  have hg := gG_on hc
  have a1 := zm_on hc hg (hid d r)
  have a2 := zm_on hc hK (hid e r)
  have a3 := zm_on hc hg (d (256 - r)).toInt
  have a4 := zm_on hc hK (e (256 - r)).toInt
  unfold suR
  show _ = ea (zm (gG c) (2 * hid d r + (d (256 - r)).toInt)) (zm K (2 * hid e r + (e (256 - r)).toInt))
  rw [Int.two_mul, Int.two_mul, zm_add hc hg, zm_add hc hg, zm_add hc hK, zm_add hc hK, g_med hc a1 a2 a1 a2, g_as hc (g_on hc (g_on hc a1 a1) (g_on hc a2 a2)) a3 a4, g_med hc (g_on hc a1 a1) (g_on hc a2 a2) a3 a4]
set_option maxHeartbeats 400000 in
theorem l_ad86 {F : Type} [Lean.Grind.Field F] [DecidableEq F] {c : Int → F} (hc : cH pP c) (fu : Nat) (hfu : 1200 ≤ fu) (MC MS : Nat) (cy : Nat → ClassId) (ad : Nat → Nat) (mi : Nat) (q : Nat → Nat) (hq : Ij 103 q) (n1 : Nat) (R : Nat → Nat → Option Nat) (hR : sgQ q R) (κ σ : Nat) (B0 : Nat → Nat → Int32) (L0 : Nat → Nat → Int64) (M0 : Mm) (Φ : Mm → Prop) {K : Option (F × F)} (hK : onC (c 7) K) (hb : bI c L0 B0) (hky : kyI c K 8 L0 B0) (hd : ∀ i, dg (B0 6 i)) (he : ∀ i, dg (B0 7 i)) (hΦ : ∀ L B M, Rg 103 q (sgC q cy n1 R L B) M → fr 103 q M0 M → kQ8 L0 L B0 B → pQ c L B 98 (suR c K (B0 6) (B0 7) 257) → Φ M) : ∀ m r n L B M, m + r = 257 → m < n → Rg 103 q (sgC q cy n1 R L B) M → fr 103 q M0 M → kQ8 L0 L B0 B → pQ c L B 98 (suR c K (B0 6) (B0 7) r) → xw_mSi_addUp_86 fu MC MS cy ad mi Φ n κ σ M (q 0) (nI m + (-1)) := by
  intro m
  induction m with
  | zero =>
    intro r n L B M hr hn hM hfr hk hS
    obtain ⟨n, rfl⟩ : ∃ m, n = m + 1 := ⟨n - 1, by omega⟩
    have : r = 257 := by omega
    subst this
    show xv_mSi_addUp_86 fu MC MS cy ad mi Φ (xw_mSi_addUp_86 fu MC MS cy ad mi Φ n) κ σ M (q 0) (nI 0 + (-1))
    unfold xv_mSi_addUp_86
    exact m_t (by decide) (hΦ L B M hM hfr hk hS)
  | succ m ih =>
    intro r n L B M hr hn hM hfr hk hS
    obtain ⟨n, rfl⟩ : ∃ m, n = m + 1 := ⟨n - 1, by omega⟩
    rw [pk_m1]
    show xv_mSi_addUp_86 fu MC MS cy ad mi Φ (xw_mSi_addUp_86 fu MC MS cy ad mi Φ n) κ σ M (q 0) (nI m)
    unfold xv_mSi_addUp_86
    have h98 : isP 98 := ⟨by decide, by decide, by decide⟩
    have hg := gG_on hc
    have hm : 256 - r = m := by omega
    have oS : ∀ r, onC (c 7) (suR c K (B0 6) (B0 7) r) := fun r => g_on hc (zm_on hc hg _) (zm_on hc hK _)
    refine m_f (nI_pos (by omega)) (m_gr (hM 0 (by decide)) rfl (m_gr (hM 0 (by decide)) rfl ?_))
    refine r_tw hc fu hfu cy q hq n1 R B L M _ h98 hM (oS r) hS (fun L1 B1 M1 hM1 hf1 hk1 hS1 => ?_)
    have hk1 := kQ8_t hk (kQ8_1 hk1)
    suffices key : ∀ n3, 3 ≤ n3 → xw_mSi_addUp_103 fu MC MS cy ad mi Φ (xw_mSi_addUp_86 fu MC MS cy ad mi Φ n) n3 κ σ M1 (q 0) (nI m) (0 : Int32) from key fu (by omega)
    intro n3 h3
    obtain ⟨f, rfl⟩ : ∃ f, n3 = f + 1 + 1 + 1 := ⟨n3 - 3, by omega⟩
    have hin : inb (nI m) 262 = true := inb_nI (by omega) (by decide)
    have b6 : B1 6 = B0 6 := hk1.2 6 (by decide)
    show xv_mSi_addUp_103 fu MC MS cy ad mi Φ _ (xw_mSi_addUp_103 fu MC MS cy ad mi Φ _ (f + 1 + 1)) κ σ M1 (q 0) (nI m) (0 : Int32)
    unfold xv_mSi_addUp_103
    refine m_f (by decide) (m_t rfl (m_gr (hM1 0 (by decide)) rfl (m_ai (hM1 6 (by decide)) hin ?_)))
    rw [nI_clamp (n := m) (by omega), b6]
    unfold xv_mSi_addUp_127
    refine m_t rfl (m_gr (hM1 0 (by decide)) rfl ?_)
    refine l_ad143 hc fu hfu MC MS cy ad mi q hq n1 R hR κ σ Φ _ _ L1 B1 M1 (T0 := 30) (rk := 4) (X := gG c) (Or.inl ⟨rfl, rfl⟩) (g_on hc (oS r) (oS r)) hg hM1 hS1 (fun i hi => ⟨pQ_8 ⟨by omega, by omega, by omega⟩ (by omega) (hb i hi).1 hk1, by rw [hk1.2 _ (by omega)]; exact (hb i hi).2⟩) _ _ _ (hd m) (fun L2 B2 M2 hM2 hf2 hk2 hS2 => ?_)
    have hk2 := kQ8_t hk1 hk2
    have b7 : B2 7 = B0 7 := hk2.2 7 (by decide)
    show xv_mSi_addUp_103 fu MC MS cy ad mi Φ _ (xw_mSi_addUp_103 fu MC MS cy ad mi Φ _ (f + 1)) κ σ M2 (q 0) (nI m) (0 + 1)
    unfold xv_mSi_addUp_103
    refine m_f (by decide) (m_f (by decide) (m_gr (hM2 0 (by decide)) rfl (m_ai (hM2 7 (by decide)) hin ?_)))
    rw [nI_clamp (n := m) (by omega), b7]
    unfold xv_mSi_addUp_127
    refine m_f (by decide) (m_gr (hM2 0 (by decide)) rfl ?_)
    refine l_ad143 hc fu hfu MC MS cy ad mi q hq n1 R hR κ σ Φ _ _ L2 B2 M2 (T0 := 62) (rk := 5) (X := K) (Or.inr ⟨rfl, rfl⟩) (g_on hc (g_on hc (oS r) (oS r)) (zm_on hc hg _)) hK hM2 hS2 (fun i hi => ⟨pQ_8 ⟨by omega, by omega, by omega⟩ (by omega) (hky i hi).1 hk2, by rw [hk2.2 _ (by omega)]; exact (hky i hi).2⟩) _ _ _ (he m) (fun L3 B3 M3 hM3 hf3 hk3 hS3 => ?_)
    have hk3 := kQ8_t hk2 hk3
    show xv_mSi_addUp_103 fu MC MS cy ad mi Φ _ (xw_mSi_addUp_103 fu MC MS cy ad mi Φ _ f) κ σ M3 (q 0) (nI m) (0 + 1 + 1)
    unfold xv_mSi_addUp_103
    refine m_t (by decide) (m_b ?_)
    rw [← hm, suR_s hc hK] at hS3
    exact ih (r + 1) n L3 B3 M3 (by omega) (by omega) hM3 (fr_t hfr (fr_t hf1 (fr_t hf2 hf3))) hk3 hS3
set_option maxHeartbeats 400000 in
/-- sum = ofBase times the base + ofKey times the key -/
theorem v_addUp {F : Type} [Lean.Grind.Field F] [DecidableEq F] {c : Int → F} (hc : cH pP c) (fu : Nat) (hfu : 1200 ≤ fu) (MC MS : Nat) (cy : Nat → ClassId) (ad : Nat → Nat) (mi : Nat) (q : Nat → Nat) (hq : Ij 103 q) (n1 : Nat) (R : Nat → Nat → Option Nat) (hR : sgQ q R) (κ σ : Nat) (B : Nat → Nat → Int32) (L : Nat → Nat → Int64) (M : Mm) (Φ : Mm → Prop) {K : Option (F × F)} (hK : onC (c 7) K) (hK0 : K ≠ none) (hM : Rg 103 q (sgC q cy n1 R L B) M) (hb : bI c L B) (hk0 : pQ c L B 62 K) (hp98 : B 98 1 = 0 ∨ B 98 1 = 1) (hd : ∀ i, dg (B 6 i)) (he : ∀ i, dg (B 7 i)) (hΦ : ∀ L' B' M', Rg 103 q (sgC q cy n1 R L' B') M' → fr 103 q M M' → kU L L' B B' → pQ c L' B' 98 (ea (zm (gG c) (dS (B 6) 257)) (zm K (dS (B 7) 257))) → Φ M') : xw_mSi_addUp fu MC MS cy ad mi Φ κ σ M (q 0) := by
  unfold xw_mSi_addUp
  have i94 : isP 94 := ⟨by omega, by omega, by omega⟩
  have i62 : isP 62 := ⟨by omega, by omega, by omega⟩
  refine m_gr (hM 0 (by decide)) rfl (m_gr (hM 0 (by decide)) rfl (m_ar (hM 5 (by decide)) (by decide) (hR.2.2.2 0 (by decide)) ?_))
  refine r_be fu hfu cy q hq n1 R B L M _ i94 i62 (by omega) hM hk0 (fun L1 B1 M1 hM1 hf1 hk1 hp1 hb1 => ?_)
  refine m_gr (hM1 0 (by decide)) rfl (m_gr (hM1 0 (by decide)) rfl ?_)
  refine r_tw hc fu hfu cy q hq n1 R B1 L1 M1 _ i94 hM1 hK hp1 (fun L2 B2 M2 hM2 hf2 hk2 hp2 => ?_)
  have kU0 : kU L L B B := ⟨fun _ _ _ => rfl, fun _ _ => rfl⟩
  have hkU2 := kU_t (kU_t kU0 i94 (by omega) hk1) i94 (by omega) hk2
  have e62 : B2 62 = B 62 := by rw [hk2.2 62 (by omega), hk1.2 62 (by omega)]
  have hno62 : B 62 0 = 0 := by
    rcases hk0.2 with ⟨e, -⟩ | ⟨-, e⟩
    · exact e
    · exact absurd e hK0
  have h2K : sm K 2 = ea K K := by
    rw [show 2 = 1 + 1 from rfl, sm_add hc hK, sm_1]
  rw [← h2K] at hp2
  have hno94 : B2 94 0 = 0 := by
    rcases hp2.2 with ⟨e, -⟩ | ⟨-, e⟩
    · exact e
    · exact absurd e (sm_ne hc hK hK0 (by omega) (by omega))
  refine l_ad26 hc fu hfu MC MS cy ad mi q hq n1 R hR κ σ B2 L2 M2 Φ hK hK0 (by rw [hk2.2 98 (by omega), hk1.2 98 (by omega)]; exact hp98) (fun L3 B3 M3 hM3 hf3 hk3 hky hS => ?_) 7 1 fu L2 B2 M2 (by omega) (by omega) (by omega) hM2 (fr_r _ _ _) ⟨fun _ _ _ => rfl, fun _ _ => rfl⟩ rfl hp2 hno94 (fun i hi => ?_)
  · have hkU3 : kU L L3 B B3 := ⟨fun k k1 k2 => by rw [hk3.1 k k1 k2, hkU2.1 k k1 k2], fun k k1 => by rw [hk3.2 k k1, hkU2.2 k k1]⟩
    have e6 : B3 6 = B 6 := hkU3.2 6 (by omega)
    have e7 : B3 7 = B 7 := hkU3.2 7 (by omega)
    refine l_ad86 hc fu hfu MC MS cy ad mi q hq n1 R hR κ σ B3 L3 M3 Φ hK (bI_k hb hkU3) hky (by rw [e6]; exact hd) (by rw [e7]; exact he) (fun L4 B4 M4 hM4 hf4 hk4 hS4 => hΦ L4 B4 M4 hM4 (fr_t hf1 (fr_t hf2 (fr_t hf3 hf4))) ⟨fun k k1 k2 => by rw [hk4.1 k (by omega) k2, hkU3.1 k k1 k2], fun k k1 => by rw [hk4.2 k (by omega), hkU3.2 k k1]⟩ ?_) 257 0 fu L3 B3 M3 (by omega) (by omega) hM3 (fr_r _ _ _) (kQ8_r _ _) ?_
    · unfold suR at hS4
      rw [hid_257, hid_257, e6, e7] at hS4
      exact hS4
    · have : suR c K (B3 6) (B3 7) 0 = none := by
        unfold suR
        show ea (zm (gG c) 0) (zm K 0) = none
        rfl
      rw [this]
      exact hS
  · have : i = 0 := by omega
    subst this
    refine ⟨?_, ?_⟩
    · rw [sm_1]
      exact pQ_c hk0 (fun k k1 k2 => by rw [hk2.1 k (by omega) (by omega), hk1.1 k (by omega) (by omega)]) e62
    · show B2 62 0 = 0
      rw [e62]
      exact hno62
