-- lists of the JDK in the memory: add, remove, set
/-- cells and slots that an add may take -/
def dcp (cap n : Nat) : Nat := ncp cap n - cap
set_option maxHeartbeats 4000000 in
theorem dcp_c {cap n : Nat} (h : n = cap) : 1 ≤ dcp cap n ∧ ncp cap n ≤ 4 * dcp cap n ∧ ncp cap n = cap + dcp cap n := by
  unfold dcp ncp
  rw [if_neg (by omega)]
  by_cases q : cap = 0
  · rw [if_pos q]; omega
  · rw [if_neg q]
    split <;> omega
set_option maxHeartbeats 4000000 in
theorem ncp_k {cap n : Nat} (h : n < cap) : ncp cap n = cap := by
  unfold ncp; rw [if_pos h]
set_option maxHeartbeats 4000000 in
theorem ncp_b {cap n : Nat} (h : cap ≤ 60000) : ncp cap n ≤ 100000 := by
  unfold ncp
  split
  · omega
  · split
    · omega
    · split <;> omega
/-- what an add leaves -/
def adQ (P : Nat → Prop) (q : Nat → Nat) (C : Nat → va_E) (cy : Nat → ClassId) (kl ka k : Nat) (E : List Nat) (cap : Nat) (Φ : Mm → Prop) : Prop := ∀ M' P' q' C', RG P' q' C' M' → IJ P' q' → (∀ j, P' j ↔ P j ∨ j = ka) → (∀ j, j ≠ ka → q' j = q j) → (∀ j, j ≠ kl → j ≠ ka → C' j = C j) → alR P' q' C' cy kl ka (E ++ [k]) (ncp cap E.length) → Φ M'
set_option maxHeartbeats 4000000 in
theorem w_Add (fu MC MS : Nat) (cy : Nat → ClassId) (ad : Nat → Nat) (mi : Nat) {P : Nat → Prop} {q : Nat → Nat} {C : Nat → va_E} {M : Mm} (hM : RG P q C M) (hq : IJ P q) {kl ka k : Nat} {E : List Nat} {cap κ σ : Nat} {Φ : Int32 → Mm → Prop} (h : alR P q C cy kl ka E cap) (hne : kl ≠ ka) (ht : ¬ P 223) (had : q 135 = ad 26) (hn1 : ka ≠ 135 ∧ kl ≠ 135 ∧ ka ≠ 223) (hk : P k) (hkn : k ≠ kl ∧ k ≠ ka) (hcap : cap ≤ 60000) {ci : Nat} (hci : ci = 1 ∨ ci = 2) (hok : ∃ fs, C k = .inr (ci, fs)) (hoE : ∀ j, j ∈ E → P j ∧ j ≠ kl ∧ j ≠ ka ∧ ∃ fs, C j = .inr (ci, fs)) (hκ : κ + dcp cap E.length ≤ MC ∧ σ + 4 * dcp cap E.length ≤ MS) (hΦ : adQ P q C cy kl ka k E cap (Φ 1)) : xw_mAl_add0 fu MC MS cy ad mi Φ κ σ M (q kl) (q k) := by
  obtain ⟨hkl, mc, ⟨h1, h2, h3, h4⟩ | ⟨p1, p2, p3, p4, p5, f, p6, p7⟩⟩ := h
  · -- the first one
    subst h1 h2
    have hm := g_at hM hkl h4
    have ek : ka ≠ k := fun e => hkn.2 e.symm
    unfold xw_mAl_add0
    refine m_gi hm rfl (m_b (g_pt hM hq hkl h4 (by show 2 < 3; decide) (fun M3 hM3 => ?_)))
    have c3 : va_up C kl (.inr (11, [.ref (q 135), .int 0, .int mc].set 2 (.int (mc + 1)))) kl = .inr (11, [.ref (q 135), .int 0, .int (mc + 1)]) := up_e
    have hm3 := g_at hM3 hkl c3
    obtain ⟨d1, d2, d3⟩ := dcp_c (cap := 0) (n := 0) rfl
    refine m_gr hm3 rfl (m_gi hm3 rfl (m_ck hm3 ⟨dcp 0 0, 4 * dcp 0 0, hκ, ?_⟩))
    unfold xw_mAl_add1
    refine m_t had (m_t rfl (m_ck hm3 ⟨dcp 0 0, 4 * dcp 0 0, ⟨by omega, by omega⟩, ?_⟩))
    unfold xw_mAl_grow0
    refine m_gi hm3 rfl (m_b (m_ck hm3 ⟨dcp 0 0, 4 * dcp 0 0, ⟨by omega, by omega⟩, ?_⟩))
    unfold xw_mAl_grow1
    refine m_gr hm3 rfl (m_t had (m_f (by decide) (m_gr hm3 rfl (m_t (congrArg some had) (m_bn (e' := nI 10) (by decide) ⟨⟨by decide, by decide⟩, ⟨by omega, ?_⟩, ?_⟩)))))
    · show 0 + 10 ≤ 4 * dcp 0 0
      have : ncp 0 0 = 10 := rfl
      omega
    refine g_nwz hM3 hq (k := ka) h3 (fun a M5 hM5 hq5 haz => ?_)
    have hqk : va_up q ka a kl = q kl := up_n hne
    have hpt := g_pt (K := fun M8 => oss (some a) fun q7 => oss (some q7) fun q5 => xv_mAl_add1_11 fu (dcp 0 0) (4 * dcp 0 0) cy ad mi (fun M9 => Φ 1 M9) (0 + dcp 0 0) (0 + 4 * dcp 0 0) M8 (q kl) (q k) q5 0) hM5 hq5 (k := kl) (ci := 11) (i := 0) (v := .ref a) (Or.inl hkl) ((up_n hne).trans c3) (by show 0 < 3; decide) (fun M8 hM8 => ⟨a, rfl, a, rfl, ?_⟩)
    · rw [hqk] at hpt
      exact hpt
    have hk5 : (va_up (va_up (va_up C kl (.inr (11, [.ref (q 135), .int 0, .int mc].set 2 (.int (mc + 1))))) ka (.inl (cy 7, 10, .inr (.inr (.inr (.inr fun _ => none)))))) kl (.inr (11, [.ref (q 135), .int 0, .int (mc + 1)].set 0 (.ref a)))) k = C k := by
      rw [up_n hkn.1, up_n hkn.2, up_n hkn.1]
    have hka5 : (va_up (va_up (va_up C kl (.inr (11, [.ref (q 135), .int 0, .int mc].set 2 (.int (mc + 1))))) ka (.inl (cy 7, 10, .inr (.inr (.inr (.inr fun _ => none)))))) kl (.inr (11, [.ref (q 135), .int 0, .int (mc + 1)].set 0 (.ref a)))) ka = .inl (cy 7, 10, .inr (.inr (.inr (.inr fun _ => none)))) := by
      rw [up_n (fun e => hne e.symm), up_e]
    have A := w_Add11 fu (dcp 0 0) (4 * dcp 0 0) cy ad mi hM8 hq5 (kl := kl) (ka := ka) (k := k) (n := 0) (cap := 10) (κ := 0 + dcp 0 0) (σ := 0 + 4 * dcp 0 0) (mc := mc + 1) (Φ := fun M9 => Φ 1 M9) (f := fun _ => none) (Or.inl hkl) (Or.inr rfl) (Or.inl hk) hne hkn (by rw [up_e, show va_up q ka a ka = a from up_e]; rfl) hka5 (by decide) (by decide) (by
      obtain ⟨fs, hfs⟩ := hok
      rcases hci with rfl | rfl
      · exact Or.inl ⟨fs, hk5.trans hfs⟩
      · exact Or.inr ⟨fs, hk5.trans hfs⟩) (fun M9 hM9 => hΦ M9 _ _ _ hM9 hq5 (fun j => Iff.rfl) (fun j hj => up_n hj) (fun j j1 j2 => by rw [up_n j1, up_n j2, up_n j1, up_n j2, up_n j1]) ⟨Or.inl hkl, mc + 1, Or.inr ⟨Or.inr rfl, by decide, (show 1 ≤ 10 by decide), ⟨by decide, by rw [up_e, up_n (fun z => hn1.1 z.symm), had]; exact haz⟩, up_e, va_up (fun _ => none) 0 (some (va_up q ka a k)), ?_, fun i hi => ?_⟩⟩)
    · rw [hqk, show va_up q ka a k = q k from up_n hkn.2, show va_up q ka a ka = a from up_e] at A
      exact A
    · rw [up_n (fun e => hne e.symm), up_e]; rfl
    · have e0 : i = 0 := by
        replace hi : i < 1 := hi
        omega
      subst e0
      rw [up_e]
      rfl
  have hm := g_at hM hkl p5
  have e26 : q ka ≠ ad 26 := fun e => p4.2 (e.trans had.symm)
  unfold xw_mAl_add0
  refine m_gi hm rfl (m_b (g_pt hM hq hkl p5 (by show 2 < 3; decide) (fun M3 hM3 => ?_)))
  have c3 : va_up C kl (.inr (11, [.ref (q ka), .int (nI E.length), .int mc].set 2 (.int (mc + 1)))) kl = .inr (11, [.ref (q ka), .int (nI E.length), .int (mc + 1)]) := up_e
  have cj : ∀ j, j ≠ kl → va_up C kl (.inr (11, [.ref (q ka), .int (nI E.length), .int mc].set 2 (.int (mc + 1)))) j = C j := fun j hj => up_n hj
  generalize va_up C kl (.inr (11, [.ref (q ka), .int (nI E.length), .int mc].set 2 (.int (mc + 1)))) = C3 at *
  have hm3 := g_at hM3 hkl c3
  have c3a : C3 ka = .inl (cy 7, cap, .inr (.inr (.inr (.inr f)))) := (cj ka (fun e => hne e.symm)).trans p6
  refine m_gr hm3 rfl (m_gi hm3 rfl (m_ck hm3 ⟨dcp cap E.length, 4 * dcp cap E.length, hκ, ?_⟩))
  unfold xw_mAl_add1
  refine m_f e26 ⟨_, g_at hM3 p1 c3a, ?_⟩
  show if nI E.length = nI cap then _ else _
  have ok3 : ∀ j, j ≠ kl → (∃ fs, C j = .inr (ci, fs)) → ∃ fs, C3 j = .inr (ci, fs) := fun j hj ⟨fs, hfs⟩ => ⟨fs, (cj j hj).trans hfs⟩
  by_cases g : E.length < cap
  · refine m_f (fun e => absurd ((nI_eq32 (a := E.length) (b := cap) (by omega) (by omega)).mp e) (by omega)) ?_
    refine w_Add11 fu _ _ cy ad mi hM3 hq hkl p1 hk hne hkn c3 c3a g (by omega) (by
      rcases hci with rfl | rfl
      · exact Or.inl (ok3 k hkn.1 hok)
      · exact Or.inr (ok3 k hkn.1 hok)) (fun M9 hM9 => hΦ M9 P q _ hM9 hq (fun j => ⟨Or.inl, fun o => o.elim id fun e => e ▸ p1⟩) (fun j _ => rfl) (fun j j1 j2 => by rw [up_n j1, up_n j2, cj j j1]) ⟨hkl, mc + 1, Or.inr ⟨p1, by rw [ncp_k g]; exact p2, ?_, by rw [ncp_k g]; exact p4, ?_, va_up f E.length (some (q k)), ?_, fun i hi => ?_⟩⟩)
    · rw [ncp_k g, List.length_append]; show E.length + 1 ≤ cap; omega
    · rw [up_e, List.length_append]; rfl
    · rw [up_n (fun e => hne e.symm), up_e, ncp_k g]
    · rw [List.length_append] at hi
      replace hi : i < E.length + 1 := hi
      by_cases e : i = E.length
      · rw [e, up_e, gD_al]
      · rw [up_n e, gD_ap (by omega)]
        exact p7 i (by omega)
  · have ec : E.length = cap := by omega
    obtain ⟨d1, d2, d3⟩ := dcp_c (cap := cap) (n := E.length) ec
    rw [ec] at d1 d2 d3 c3 p7 ⊢
    have hnb := ncp_b (n := cap) hcap
    refine m_t rfl (m_ck hm3 ⟨dcp cap cap, 4 * dcp cap cap, ⟨by omega, by omega⟩, ?_⟩)
    rw [ec] at hm3
    have hoi : ∀ i, i < cap → E.getD i 0 ∈ E := fun i hi => gD_mem 0 E (by omega)
    refine w_Grow fu _ _ cy ad mi hM3 hq (E := E) hkl p1 ht e26 hne c3 c3a (by omega) hcap hci (fun i hi => ?_) ⟨by omega, by omega⟩ (fun M5 a hM5 hq5 haz => ⟨a, rfl, ?_⟩)
    · obtain ⟨o1, o2, o3, o4⟩ := hoE _ (hoi i hi)
      exact ⟨_, o1, p7 i hi, ok3 _ o2 o4⟩
    have hqk : va_up q ka a kl = q kl := up_n hne
    have A := w_Add11 fu (dcp cap cap) (4 * dcp cap cap) cy ad mi hM5 hq5 (kl := kl) (ka := ka) (k := k) (n := cap) (cap := ncp cap cap) (κ := 0 + dcp cap cap) (σ := 0 + 4 * dcp cap cap) (mc := mc + 1) (Φ := fun M9 => Φ 1 M9) (f := va_cpy f (fun _ => none) 0 0 cap) hkl p1 hk hne hkn (by rw [up_n hne, up_e, show va_up q ka a ka = a from up_e]) up_e (by omega) (by omega) (by
      obtain ⟨fs, hfs⟩ := ok3 k hkn.1 hok
      have : va_up (va_up C3 kl (.inr (11, [.ref a, .int (nI cap), .int (mc + 1)]))) ka (.inl (cy 7, ncp cap cap, .inr (.inr (.inr (.inr (va_cpy f (fun _ => none) 0 0 cap)))))) k = C3 k := by rw [up_n hkn.2, up_n hkn.1]
      rcases hci with rfl | rfl
      · exact Or.inl ⟨fs, this.trans hfs⟩
      · exact Or.inr ⟨fs, this.trans hfs⟩) (fun M9 hM9 => hΦ M9 P _ _ hM9 hq5 (fun j => ⟨Or.inl, fun o => o.elim id fun e => e ▸ p1⟩) (fun j hj => up_n hj) (fun j j1 j2 => by rw [up_n j1, up_n j2, up_n j2, up_n j1, cj j j1]) ⟨hkl, mc + 1, Or.inr ⟨p1, ?_, ?_, ?_, ?_, va_up (va_cpy f (fun _ => none) 0 0 cap) cap (some (va_up q ka a k)), ?_, fun i hi => ?_⟩⟩)
    · rw [hqk, show va_up q ka a k = q k from up_n hkn.2, show va_up q ka a ka = a from up_e] at A
      exact A
    · rw [ec]; omega
    · rw [ec, List.length_append, ec]; show cap + 1 ≤ ncp cap cap; omega
    · exact ⟨ncp_b hcap, by rw [up_e, up_n (fun z => hn1.1 z.symm), had]; exact haz⟩
    · rw [up_e, List.length_append, ec]; rfl
    · rw [up_n (fun e => hne e.symm), up_e, ec]
    · rw [List.length_append, ec] at hi
      replace hi : i < cap + 1 := hi
      by_cases e : i = cap
      · rw [e, up_e, ← ec, gD_al]
      · rw [up_n e, gD_ap (by omega), pk_cpy_in (Nat.zero_le _) (by omega), Nat.zero_add, Nat.sub_zero, show va_up q ka a (E.getD i 0) = q (E.getD i 0) from up_n (hoE _ (hoi i (by omega))).2.2.1]
        exact p7 i (by omega)
