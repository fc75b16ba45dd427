-- the ledger's state: unspent, changes, the places of both lists
abbrev Ld : Type := List Cn × List Cn × Nat × Nat
def ldM (P : Nat → Prop) (q : Nat → Nat) (C : Nat → va_E) (cy : Nat → ClassId) (ad : Nat → Nat) (nb : Nat) (par hgt tim : Nat → Nat) (bit : Nat → Int32) (bad : Nat → Bool) (rw : Nat → List Int32) (vl : Nat → Bool) (mk : Nat → Nat) (s : Ld) : Prop := ∃ sl, ldS P q C cy ad nb par hgt tim bit bad rw vl mk sl s.1 s.2.1 s.2.2.1 s.2.2.2
def fpS (s : Ld) (c : Cn) : Ld := (chL s.1 c, s.2.1 ++ [c], flU s.1 c s.2.2.1, ncp s.2.2.2 s.2.1.length)
def ptS (rw : Nat → List Int32) (s : Ld) (c : Cn) : Ld := match fnd rw s.1 (cnK rw c) with
  | none => fpS s c
  | some o => fpS (fpS s o) c
/-- places more -/
def grS (s s' : Ld) : Nat := (s'.2.2.1 - s.2.2.1) + (s'.2.2.2 - s.2.2.2)
def leC (s s' : Ld) : Prop := s.2.2.1 ≤ s'.2.2.1 ∧ s.2.2.2 ≤ s'.2.2.2
set_option maxHeartbeats 400000 in
theorem leC_r (s : Ld) : leC s s := ⟨Nat.le_refl _, Nat.le_refl _⟩
set_option maxHeartbeats 400000 in
theorem leC_t {s s1 s2 : Ld} (h1 : leC s s1) (h2 : leC s1 s2) : leC s s2 ∧ grS s s2 = grS s s1 + grS s1 s2 := by
  unfold leC grS at *
  omega
set_option maxHeartbeats 400000 in
theorem grS_r (s : Ld) : grS s s = 0 := by
  unfold grS
  omega
/-- what holds of the ledger's state always; N: how long the changes may get -/
def ldI (rw : Nat → List Int32) (nb N : Nat) (s : Ld) : Prop := s.1.Nodup ∧ prL s.1 s.2.1 ∧ (∀ k L, L.Nodup → prL L (s.2.1.take k) → L.length ≤ s.2.2.1 ∧ kyU rw L) ∧ (∀ c, c ∈ s.2.1 → cVd rw nb c) ∧ s.2.1.length ≤ s.2.2.2 ∧ s.2.2.1 ≤ 2 * N + 10 ∧ s.2.2.2 ≤ 2 * N + 10
set_option maxHeartbeats 400000 in
theorem ldI_s {rw : Nat → List Int32} {nb N : Nat} {s : Ld} (h : ldI rw nb N s) : s.1.length ≤ s.2.2.1 ∧ kyU rw s.1 := h.2.2.1 s.2.1.length s.1 h.1 (by rw [List.take_length]; exact h.2.1)
set_option maxHeartbeats 400000 in
theorem ldI_v {rw : Nat → List Int32} {nb N : Nat} {s : Ld} (h : ldI rw nb N s) {c : Cn} (hc : c ∈ s.1) : cVd rw nb c := h.2.2.2.1 c (List.count_pos_iff.mp (by
  have := (h.2.1 c).mp hc
  omega))
set_option maxHeartbeats 400000 in
theorem ncp_g {cap n : Nat} (h : n ≤ cap) : n < ncp cap n := by
  unfold ncp
  by_cases z : n < cap
  · rw [if_pos z]; exact z
  · rw [if_neg z]
    by_cases y : cap = 0
    · rw [if_pos y]; omega
    · rw [if_neg y]
      split
      · omega
      · omega
set_option maxHeartbeats 400000 in
theorem nd_eq {L L' : List Cn} (h : L.Nodup) (h' : L'.Nodup) (e : ∀ x, x ∈ L ↔ x ∈ L') : L.length = L'.length := Nat.le_antisymm (nd_le L L' h fun x hx => (e x).mp hx) (nd_le L' L h' fun x hx => (e x).mpr hx)
set_option maxHeartbeats 400000 in
theorem fpS_I {rw : Nat → List Int32} {nb N : Nat} {s : Ld} (h : ldI rw nb N s) {c : Cn} (hc : cVd rw nb c) (hk : c ∈ s.1 ∨ ∀ x, x ∈ s.1 → cnK rw x ≠ cnK rw c) (hN : s.2.1.length < N) : ldI rw nb N (fpS s c) ∧ leC s (fpS s c) := by
  obtain ⟨hll, hky⟩ := ldI_s h
  obtain ⟨hnd, hpr, hpx, hv, hlh, hcu, hch⟩ := id h
  obtain ⟨n1, n2, n3⟩ := chL_p hnd c
  have hLH := prL_l hpr hnd
  obtain ⟨u1, u2⟩ := flU_x (c := c) hcu (by omega) hll
  obtain ⟨v1, v2⟩ := ncp_x hch hN hlh
  have hpr' := prL_f hpr n2
  have hlen : (chL s.1 c).length ≤ flU s.1 c s.2.2.1 := by
    unfold flU
    by_cases z : c ∈ s.1
    · rw [if_pos z]
      refine Nat.le_trans (nd_le _ s.1 n1 fun x hx => ?_) hll
      rcases (n2 x).mp hx with w | w
      · exact w.2
      · exact absurd z w.2
    · rw [if_neg z]
      have := ncp_g hll
      omega
  have hky' : kyU rw (chL s.1 c) := fun x y hx hy e => by
    rcases (n2 x).mp hx with w | w
    · rcases (n2 y).mp hy with w' | w'
      · exact hky x y w.2 w'.2 e
      · rcases hk with hk | hk
        · exact absurd hk w'.2
        · rw [w'.1] at e
          exact absurd e (hk x w.2)
    · rcases (n2 y).mp hy with w' | w'
      · rcases hk with hk | hk
        · exact absurd hk w.2
        · rw [w.1] at e
          exact absurd e.symm (hk y w'.2)
      · rw [w.1, w'.1]
  refine ⟨⟨n1, hpr', fun k L hL hp => ?_, fun x hx => ?_, ?_, u1, v1⟩, u2, v2⟩
  · replace hp : prL L ((s.2.1 ++ [c]).take k) := hp
    show L.length ≤ flU s.1 c s.2.2.1 ∧ _
    by_cases z : k ≤ s.2.1.length
    · rw [List.take_append_of_le_length z] at hp
      obtain ⟨a, b⟩ := hpx k L hL hp
      exact ⟨by omega, b⟩
    · rw [List.take_of_length_le (by rw [List.length_append]; show s.2.1.length + 1 ≤ k; omega)] at hp
      have e : ∀ x, x ∈ L ↔ x ∈ chL s.1 c := fun x => (hp x).trans (hpr' x).symm
      rw [nd_eq hL n1 e]
      exact ⟨hlen, fun x y hx hy => hky' x y ((e x).mp hx) ((e y).mp hy)⟩
  · rcases List.mem_append.mp hx with w | w
    · exact hv x w
    · rw [List.mem_singleton.mp w]; exact hc
  · show (s.2.1 ++ [c]).length ≤ ncp s.2.2.2 s.2.1.length
    rw [List.length_append]
    exact ncp_g hlh
set_option maxHeartbeats 400000 in
theorem ptS_I {rw : Nat → List Int32} {nb N : Nat} {s : Ld} (h : ldI rw nb N s) {c : Cn} (hc : cVd rw nb c) (hN : s.2.1.length + 2 ≤ N) : (ldI rw nb N (ptS rw s c) ∧ leC s (ptS rw s c)) ∧ (∀ x, x ∈ (ptS rw s c).1 ↔ x = c ∨ (x ∈ s.1 ∧ cnK rw x ≠ cnK rw c)) ∧ ∃ D, (ptS rw s c).2.1 = s.2.1 ++ D ∧ D.length ≤ 2 := by
  obtain ⟨hll, hky⟩ := ldI_s h
  unfold ptS
  cases hf : fnd rw s.1 (cnK rw c) with
  | none =>
    have hno : ∀ x, x ∈ s.1 → cnK rw x ≠ cnK rw c := fun x hx e => by
      unfold fnd at hf
      exact absurd (decide_eq_true e) (List.find?_eq_none.mp hf x hx)
    have hcn : c ∉ s.1 := fun z => hno c z rfl
    refine ⟨fpS_I h hc (Or.inr hno) (by omega), fun x => ?_, ⟨[c], rfl, show 1 ≤ 2 by decide⟩⟩
    show x ∈ chL s.1 c ↔ _
    rw [(chL_p h.1 c).2.1 x]
    constructor
    · intro w
      rcases w with w | w
      · exact Or.inr ⟨w.2, hno x w.2⟩
      · exact Or.inl w.1
    · intro w
      rcases w with w | w
      · exact Or.inr ⟨w, hcn⟩
      · exact Or.inl ⟨fun e => hcn (e ▸ w.1), w.1⟩
  | some o =>
    obtain ⟨ho, hok⟩ := fnd_in hf
    have hvo := ldI_v h ho
    obtain ⟨h1, l1⟩ := fpS_I h hvo (Or.inl ho) (by omega)
    have t1 := (chL_p h.1 o).2.1
    have m1 : ∀ x, x ∈ (fpS s o).1 ↔ x ≠ o ∧ x ∈ s.1 := fun x => by
      show x ∈ chL s.1 o ↔ _
      rw [t1 x]
      constructor
      · intro w
        rcases w with w | w
        · exact w
        · exact absurd ho w.2
      · exact fun w => Or.inl w
    have hno : ∀ x, x ∈ (fpS s o).1 → cnK rw x ≠ cnK rw c := fun x hx e => by
      obtain ⟨w1, w2⟩ := (m1 x).mp hx
      exact w1 (hky x o w2 ho (e.trans hok.symm))
    have hcn : c ∉ (fpS s o).1 := fun z => hno c z rfl
    have hl1 : (fpS s o).2.1.length = s.2.1.length + 1 := by
      show (s.2.1 ++ [o]).length = _
      rw [List.length_append]
      rfl
    obtain ⟨h2, l2⟩ := fpS_I h1 hc (Or.inr hno) (by omega)
    refine ⟨⟨h2, (leC_t l1 l2).1⟩, fun x => ?_, ⟨[o, c], ?_, Nat.le_refl _⟩⟩
    · show x ∈ chL (fpS s o).1 c ↔ _
      rw [(chL_p h1.1 c).2.1 x, m1]
      constructor
      · intro w
        rcases w with w | w
        · exact Or.inr ⟨w.2.2, hno x ((m1 x).mpr w.2)⟩
        · exact Or.inl w.1
      · intro w
        rcases w with w | w
        · exact Or.inr ⟨w, hcn⟩
        · exact Or.inl ⟨fun e => w.2 (by rw [e]), fun e => w.2 (by rw [e]; exact hok), w.1⟩
    · show s.2.1 ++ [o] ++ [c] = _
      rw [List.append_assoc]
      rfl
set_option maxHeartbeats 400000 in
/-- flip -/
theorem w_fp (fu MC MS : Nat) (cy : Nat → ClassId) (ad : Nat → Nat) (mi : Nat) {P : Nat → Prop} {q : Nat → Nat} {C : Nat → va_E} {M : Mm} (hM : RG P q C M) {nb : Nat} {par hgt tim : Nat → Nat} {bit : Nat → Int32} {bad : Nat → Bool} {rw : Nat → List Int32} {vl : Nat → Bool} {mk : Nat → Nat} {s : Ld} {N : Nat} (hS : ldM P q C cy ad nb par hgt tim bit bad rw vl mk s) (hI : ldI rw nb N s) (hN : 2 * N + 10 ≤ 60000) (hO : oK rw nb) (hp : ∀ k, 0 < k → par k < k) {c : Cn} (hc : cVd rw nb c) {κ σ : Nat} (hκ : κ + grS s (fpS s c) ≤ MC ∧ σ + 4 * grS s (fpS s c) ≤ MS) {Φ : Mm → Prop} (hΦ : ∀ M' P' q' C', RG P' q' C' M' → ldM P' q' C' cy ad nb par hgt tim bit bad rw vl mk (fpS s c) → leF P q C P' q' C' → Φ M') : xw_mLe_flip fu MC MS cy ad mi Φ κ σ M (q 130) (q (ck rw c)) := by
  obtain ⟨sl, hS⟩ := hS
  have h1 := hI.2.2.2.2.2.1
  have h2 := hI.2.2.2.2.2.2
  exact w_flip fu MC MS cy ad mi hM hS hO hp hc (by omega) (by omega) hκ (fun M' P' q' C' sl' b1 b2 b3 => hΦ M' P' q' C' b1 ⟨sl', b2⟩ b3)
set_option maxHeartbeats 2000000 in
theorem w_put (fu MC MS : Nat) (cy : Nat → ClassId) (ad : Nat → Nat) (mi : Nat) (hfu : 40 ≤ fu) {P : Nat → Prop} {q : Nat → Nat} {C : Nat → va_E} {M : Mm} (hM : RG P q C M) {nb : Nat} {par hgt tim : Nat → Nat} {bit : Nat → Int32} {bad : Nat → Bool} {rw : Nat → List Int32} {vl : Nat → Bool} {mk : Nat → Nat} {s : Ld} {N : Nat} (hS : ldM P q C cy ad nb par hgt tim bit bad rw vl mk s) (hI : ldI rw nb N s) (hN : 2 * N + 10 ≤ 60000) (hNf : N ≤ fu) (hO : oK rw nb) (hp : ∀ k, 0 < k → par k < k) (hr0 : TLb rw 0 = []) {c : Cn} (hc : cVd rw nb c) (hN2 : s.2.1.length + 2 ≤ N) {κ σ : Nat} (hκ : κ + grS s (ptS rw s c) ≤ MC ∧ σ + 4 * grS s (ptS rw s c) ≤ MS) {Φ : Mm → Prop} (hΦ : ∀ M' P' q' C', RG P' q' C' M' → ldM P' q' C' cy ad nb par hgt tim bit bad rw vl mk (ptS rw s c) → leF P q C P' q' C' → Φ M') : xw_mLe_put fu MC MS cy ad mi Φ κ σ M (q 130) (q (ck rw c)) := by
  have hS' := hS
  obtain ⟨sl, hS1⟩ := hS
  obtain ⟨⟨hq, hP, h223, had⟩, hB, h130, -⟩ := id hS1
  obtain ⟨pc, cc⟩ := hB.2 c hc
  have mc := g_at hM pc cc
  obtain ⟨⟨p0, -, -, p3, -⟩, c0, -, -, ⟨n3, g3, c3, n3b, n3e, h3⟩, -⟩ := hB.1 c.1 hc.1.1
  have hb0 : 0 < c.1 := by
    rcases Nat.eq_zero_or_pos c.1 with z | z
    · have := hc.1.2
      rw [z, hr0] at this
      exact absurd this (Nat.not_lt_zero _)
    · exact z
  have hn3 := n3e hb0
  have ht := hc.1.2
  have h333 : c.2.2 < 2 ^ 32 := by
    have := hO c hc
    unfold ckO at this
    omega
  have eI : bl g3 (32 * c.2.1) 32 = cnI rw c := bl_c _ _ _ fun j hj => by
    rw [Nat.zero_add]
    exact h3 c.2.1 ht j hj
  have hLH := prL_l hI.2.1 hI.1
  unfold xw_mLe_put
  refine m_gr mc rfl (m_gr (g_at hM p0 c0) rfl (m_gi mc rfl (m_gi mc rfl (m_ck (g_at hM (hP 130 (by decide)) h130) ⟨0, 0, by omega, ?_⟩))))
  refine w_find fu 0 0 cy ad mi hfu hM hS1 hr0 hO (by omega) p3 c3 n3b (a := 32 * c.2.1) (idx := c.2.2) (by omega) h333 (by omega) (fun M1 hM1 => ?_)
  rw [eI]
  have eK : (cnI rw c, c.2.2) = cnK rw c := rfl
  rw [eK]
  unfold ptS at hκ hΦ
  cases hf : fnd rw s.1 (cnK rw c) with
  | none =>
    rw [hf] at hκ hΦ
    replace hκ : κ + grS s (fpS s c) ≤ MC ∧ σ + 4 * grS s (fpS s c) ≤ MS := hκ
    show xv_mLe_put_29 fu MC MS cy ad mi Φ (κ + 0) (σ + 0) M1 (q 130) (q (ck rw c))
    unfold xv_mLe_put_29
    exact m_ck (g_at hM1 (hP 130 (by decide)) h130) ⟨grS s (fpS s c), 4 * grS s (fpS s c), by omega, w_fp fu _ _ cy ad mi hM1 hS' hI hN hO hp hc (by omega) hΦ⟩
  | some o =>
    rw [hf] at hκ hΦ
    obtain ⟨ho, hok⟩ := fnd_in hf
    have hvo := ldI_v hI ho
    obtain ⟨h1, l1⟩ := fpS_I hI hvo (Or.inl ho) (by omega)
    have hl1 : (fpS s o).2.1.length = s.2.1.length + 1 := by
      show (s.2.1 ++ [o]).length = _
      rw [List.length_append]
      rfl
    have t1 := (chL_p hI.1 o).2.1
    have hno : ∀ x, x ∈ (fpS s o).1 → cnK rw x ≠ cnK rw c := fun x hx e => by
      rcases (t1 x).mp hx with w | w
      · exact w.1 ((ldI_s hI).2 x o w.2 ho (e.trans hok.symm))
      · exact w.2 ho
    obtain ⟨h2, l2⟩ := fpS_I h1 hc (Or.inr hno) (by omega)
    have hg := (leC_t l1 l2).2
    replace hκ : κ + grS s (fpS (fpS s o) c) ≤ MC ∧ σ + 4 * grS s (fpS (fpS s o) c) ≤ MS := hκ
    rw [hg] at hκ
    refine m_ck (g_at hM1 (hP 130 (by decide)) h130) ⟨grS s (fpS s o), 4 * grS s (fpS s o), by omega, w_fp fu _ _ cy ad mi hM1 hS' hI hN hO hp hvo (by omega) (fun M2 P2 q2 C2 hM2 hS2 hF2 => ?_)⟩
    unfold xv_mLe_put_29
    obtain ⟨sl2, hS2'⟩ := id hS2
    have hcb := ck_b (rw := rw) c
    rw [← hF2.2.2.1 130 (by decide) (by decide), ← hF2.2.2.1 (ck rw c) (by omega) (by omega)]
    exact m_ck (g_at hM2 (hS2'.1.2.1 130 (by decide)) hS2'.2.2.1) ⟨grS (fpS s o) (fpS (fpS s o) c), 4 * grS (fpS s o) (fpS (fpS s o) c), by omega, w_fp fu _ _ cy ad mi hM2 hS2 h1 hN hO hp hc (by omega) (fun M3 P3 q3 C3 hM3 hS3 hF3 => hΦ M3 P3 q3 C3 hM3 hS3 (leF_t hF2 hF3))⟩
