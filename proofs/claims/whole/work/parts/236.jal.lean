-- lists of the JDK in the memory; keys: 135 the empty array, 220 222 their arrays, 223 a new one
/-- the list under key kl, its array under key ka, with these keys' cells in it -/
def alR (P : Nat → Prop) (q : Nat → Nat) (C : Nat → va_E) (cy : Nat → ClassId) (kl ka : Nat) (E : List Nat) (cap : Nat) : Prop := P kl ∧ ∃ mc, (cap = 0 ∧ E = [] ∧ ¬ P ka ∧ C kl = .inr (11, [.ref (q 135), .int 0, .int mc])) ∨ (P ka ∧ 0 < cap ∧ E.length ≤ cap ∧ (cap ≤ 100000 ∧ q ka ≠ q 135) ∧ C kl = .inr (11, [.ref (q ka), .int (nI E.length), .int mc]) ∧ ∃ f, C ka = .inl (cy 7, cap, .inr (.inr (.inr (.inr f)))) ∧ ∀ i, i < E.length → f i = some (q (E.getD i 0)))
set_option maxHeartbeats 2000000 in
theorem al_s {P : Nat → Prop} {q : Nat → Nat} {C : Nat → va_E} {cy : Nat → ClassId} {kl ka : Nat} {E : List Nat} {cap : Nat} (h : alR P q C cy kl ka E cap) : E.length ≤ cap ∧ cap ≤ 100000 ∧ ∃ e mc, C kl = .inr (11, [.ref e, .int (nI E.length), .int mc]) := by
  obtain ⟨-, mc, ⟨h1, h2, -, h3⟩ | ⟨-, -, h1, h2, h3, -⟩⟩ := h
  · subst h1 h2
    exact ⟨Nat.le_refl _, by decide, _, mc, h3⟩
  · exact ⟨h1, h2.1, _, mc, h3⟩
set_option maxHeartbeats 2000000 in
theorem w_Size (fu MC MS : Nat) (cy : Nat → ClassId) (ad : Nat → Nat) (mi : Nat) {P : Nat → Prop} {q : Nat → Nat} {C : Nat → va_E} {M : Mm} (hM : RG P q C M) {kl ka : Nat} {E : List Nat} {cap κ σ : Nat} {Φ : Int32 → Mm → Prop} (h : alR P q C cy kl ka E cap) (hΦ : Φ (nI E.length) M) : xw_mAl_size fu MC MS cy ad mi Φ κ σ M (q kl) := by
  obtain ⟨-, -, e, mc, hc⟩ := al_s h
  unfold xw_mAl_size
  exact m_gi (g_at hM h.1 hc) rfl hΦ
set_option maxHeartbeats 2000000 in
theorem w_Chk (fu MC MS : Nat) (cy : Nat → ClassId) (ad : Nat → Nat) (mi : Nat) {i n : Nat} (hi : i < n) (hn : n ≤ 100000) {M : Mm} {κ σ : Nat} (hκ : κ ≤ MC ∧ σ ≤ MS) {Φ : Int32 → Mm → Prop} (hΦ : Φ (nI i) M) : xw_mOb_checkIndex fu MC MS cy ad mi Φ κ σ M (nI i) (nI n) := by
  unfold xw_mOb_checkIndex xw_mPq_checkIndex_z2
  exact ⟨0, 0, hκ, m_f (fun g => absurd ((nI_ltI (a := i) (b := 0) (by omega) (by omega)).mp g) (Nat.not_lt_zero _)) (m_t ((nI_ltI (a := i) (b := n) (by omega) (by omega)).mpr hi) hΦ)⟩
set_option maxHeartbeats 2000000 in
theorem w_Get (fu MC MS : Nat) (cy : Nat → ClassId) (ad : Nat → Nat) (mi : Nat) {P : Nat → Prop} {q : Nat → Nat} {C : Nat → va_E} {M : Mm} (hM : RG P q C M) {kl ka : Nat} {E : List Nat} {cap κ σ : Nat} {Φ : Option Nat → Mm → Prop} (h : alR P q C cy kl ka E cap) {i : Nat} (hi : i < E.length) (hκ : κ ≤ MC ∧ σ ≤ MS) (hΦ : Φ (some (q (E.getD i 0))) M) : xw_mAl_get fu MC MS cy ad mi Φ κ σ M (q kl) (nI i) := by
  obtain ⟨l1, l2, e, mc0, hc⟩ := al_s h
  obtain ⟨h0, mc, ⟨-, h2, -⟩ | ⟨p1, p2, p3, p4, p5, f, p6, p7⟩⟩ := h
  · subst h2; exact absurd hi (Nat.not_lt_zero _)
  have hm := g_at hM h0 p5
  unfold xw_mAl_get
  refine m_gi hm rfl ⟨0, 0, hκ, w_Chk fu 0 0 cy ad mi hi (by omega) ⟨Nat.le_refl _, Nat.le_refl _⟩ (m_ck hm ⟨0, 0, hκ, ?_⟩)⟩
  unfold xw_mAl_elementData
  refine m_gr hm rfl (m_ar (g_at hM p1 p6) (inb_nI (by omega) (by omega)) (x := q (E.getD i 0)) ?_ ⟨_, rfl, hΦ⟩)
  rw [nI_clamp (n := i) (by omega)]
  exact p7 i hi
/-- a list's new capacity -/
def ncp (cap n : Nat) : Nat := if n < cap then cap else if cap = 0 then 10 else cap + (if 1 < cap / 2 then cap / 2 else 1)
set_option maxHeartbeats 2000000 in
theorem RG_ren {P : Nat → Prop} {q : Nat → Nat} {C : Nat → va_E} {M : Mm} {t ka : Nat} (ht : ¬ P t) (hM : RG (fun j => P j ∨ j = t) q C M) (hq : IJ (fun j => P j ∨ j = t) q) (hka : P ka) : RG P (va_up q ka (q t)) (va_up C ka (C t)) M ∧ IJ P (va_up q ka (q t)) := by
  refine ⟨fun j hj => ?_, fun i j hi hj e => ?_⟩
  · by_cases h : j = ka
    · subst h
      rw [up_e, up_e]; exact hM t (Or.inr rfl)
    · rw [up_n h, up_n h]; exact hM j (Or.inl hj)
  · by_cases h1 : i = ka <;> by_cases h2 : j = ka
    · rw [h1, h2]
    · rw [h1, up_e, up_n h2] at e
      exact absurd hj (fun g => ht ((hq t j (Or.inr rfl) (Or.inl g) e) ▸ g))
    · rw [h2, up_e, up_n h1] at e
      exact absurd hi (fun g => ht ((hq i t (Or.inl g) (Or.inr rfl) e) ▸ g))
    · rw [up_n h1, up_n h2] at e
      exact hq i j (Or.inl hi) (Or.inl hj) e
set_option maxHeartbeats 2000000 in
theorem gD_ap {E : List Nat} {k i : Nat} (h : i < E.length) : (E ++ [k]).getD i 0 = E.getD i 0 := by
  rw [List.getD_eq_getElem?_getD, List.getD_eq_getElem?_getD, List.getElem?_append_left h]
set_option maxHeartbeats 2000000 in
theorem gD_al {E : List Nat} {k : Nat} : (E ++ [k]).getD E.length 0 = k := by
  rw [List.getD_eq_getElem?_getD, List.getElem?_append_right (Nat.le_refl _), Nat.sub_self]
  rfl
set_option maxHeartbeats 2000000 in
set_option maxHeartbeats 2000000 in
/-- the last steps of add: the element, the size -/
theorem w_Add11 (fu MC MS : Nat) (cy : Nat → ClassId) (ad : Nat → Nat) (mi : Nat) {P : Nat → Prop} {q : Nat → Nat} {C : Nat → va_E} {M : Mm} (hM : RG P q C M) (hq : IJ P q) {kl ka k : Nat} {n cap κ σ : Nat} {mc : Int32} {Φ : Mm → Prop} {f : Nat → Option Nat} (hkl : P kl) (hka : P ka) (hk : P k) (hne : kl ≠ ka) (hkn : k ≠ kl ∧ k ≠ ka) (hc : C kl = .inr (11, [.ref (q ka), .int (nI n), .int mc])) (hf : C ka = .inl (cy 7, cap, .inr (.inr (.inr (.inr f))))) (hn : n < cap) (hcap : cap ≤ 100000) (hob : (∃ fs, C k = .inr (1, fs)) ∨ ∃ fs, C k = .inr (2, fs)) (hΦ : ∀ M', RG P q (va_up (va_up C ka (.inl (cy 7, cap, .inr (.inr (.inr (.inr (va_up f n (some (q k))))))))) kl (.inr (11, [.ref (q ka), .int (nI (n + 1)), .int mc]))) M' → Φ M') : xv_mAl_add1_11 fu MC MS cy ad mi Φ κ σ M (q kl) (q k) (q ka) (nI n) := by
  have T : ∀ ci, (∃ fs, C k = .inr (ci, fs)) → mck M (q k) ci (msr M (q ka) (cy 7) (nI n) (some (q k)) fun M2 => bnd (nI n + 1) fun v3 => mpt M2 (q kl) 11 1 (.int v3) fun M4 => Φ M4) := fun ci ⟨fs, hfs⟩ => by
    refine m_ck (g_at hM hk hfs) (g_sr hM hq hka hf (inb_nI (by omega) (by omega)) (fun M2 hM2 => m_bn (e' := nI (n + 1)) (nI_add n 1) ?_))
    rw [nI_clamp (n := n) (by omega)] at hM2
    refine g_pt hM2 hq (i := 1) (v := .int (nI (n + 1))) hkl ((up_n hne).trans hc) (by show 1 < 3; decide) (fun M4 hM4 => hΦ M4 hM4)
  unfold xv_mAl_add1_11
  rcases hob with h | h
  · exact Or.inl (T 1 h)
  · exact Or.inr (T 2 h)
set_option maxHeartbeats 2000000 in
set_option maxHeartbeats 2000000 in
/-- a full list grows -/
theorem w_Grow (fu MC MS : Nat) (cy : Nat → ClassId) (ad : Nat → Nat) (mi : Nat) {P : Nat → Prop} {q : Nat → Nat} {C : Nat → va_E} {M : Mm} (hM : RG P q C M) (hq : IJ P q) {kl ka : Nat} {E : List Nat} {cap κ σ : Nat} {Φ : Option Nat → Mm → Prop} (hkl : P kl) (hka : P ka) (ht : ¬ P 223) (e26 : q ka ≠ ad 26) (hne : kl ≠ ka) {mc : Int32} {f : Nat → Option Nat} (hc : C kl = .inr (11, [.ref (q ka), .int (nI cap), .int mc])) (hf : C ka = .inl (cy 7, cap, .inr (.inr (.inr (.inr f))))) (h0 : 0 < cap) (hcap : cap ≤ 60000) {ci : Nat} (hci : ci = 1 ∨ ci = 2) (hob : ∀ i, i < cap → ∃ k, P k ∧ f i = some (q k) ∧ ∃ fs, C k = .inr (ci, fs)) (hκ : κ + 1 ≤ MC ∧ σ + ncp cap cap ≤ MS) (hΦ : ∀ M' a, RG P (va_up q ka a) (va_up (va_up C kl (.inr (11, [.ref a, .int (nI cap), .int mc]))) ka (.inl (cy 7, ncp cap cap, .inr (.inr (.inr (.inr (va_cpy f (fun _ => none) 0 0 cap))))))) M' → IJ P (va_up q ka a) → a ≠ ad 26 → Φ (some a) M') : xw_mAl_grow0 fu MC MS cy ad mi Φ κ σ M (q kl) := by
  have hm := g_at hM hkl hc
  have hma := g_at hM hka hf
  have hnc : ncp cap cap = cap + (if 1 < cap / 2 then cap / 2 else 1) := by
    unfold ncp
    rw [if_neg (Nat.lt_irrefl _), if_neg (by omega)]
  have hnb : ncp cap cap ≤ 100000 := by
    rw [hnc]
    split <;> omega
  unfold xw_mAl_grow0
  refine m_gi hm rfl (m_bn (e' := nI (cap + 1)) (nI_add cap 1) (m_ck hm ⟨1, ncp cap cap, hκ, ?_⟩))
  unfold xw_mAl_grow1
  refine m_gr hm rfl (m_f e26 ⟨_, hma, ?_⟩)
  show if (0 : Int32) < nI cap then _ else _
  refine m_t ((nI_ltI (a := 0) (b := cap) (by omega) (by omega)).mpr h0) ?_
  unfold xv_mAl_grow1_20
  refine m_bn (e' := nI 1) (by show nI (cap + 1) - nI cap = nI 1; rw [nI_sb (by omega), Nat.add_sub_cancel_left]) (m_bn (e' := nI (cap / 2)) ?_ ⟨0, 0, ⟨by omega, by omega⟩, ?_⟩)
  · exact pk_shrN (n := cap) (by omega) _ 1 (by decide)
  unfold xw_mAs_newLength
  have ev : (if nI 1 < nI (cap / 2) then nI (cap / 2) else nI 1) = nI (if 1 < cap / 2 then cap / 2 else 1) := by
    by_cases g : 1 < cap / 2
    · rw [if_pos g, if_pos ((nI_ltI (a := 1) (b := cap / 2) (by omega) (by omega)).mpr g)]
    · rw [if_neg g, if_neg (fun x => g ((nI_ltI (a := 1) (b := cap / 2) (by omega) (by omega)).mp x))]
  refine m_bn ev (m_bn (e' := nI (ncp cap cap)) (by show nI cap + nI _ = _; rw [nI_add, ← hnc]) (m_f (fun g => absurd ((nI_leI (a := ncp cap cap) (b := 0) (by omega) (by omega)).mp g) (by rw [hnc]; omega)) (m_f (fun g => absurd ((nI_ltI (a := 2147483639) (b := ncp cap cap) (by omega) (by omega)).mp g) (by omega)) ?_)))
  refine m_gr hm rfl ⟨1, ncp cap cap, ⟨by omega, by omega⟩, ?_⟩
  unfold xw_mAr_copyOf0
  refine ⟨_, hma, 1, ncp cap cap, ⟨by omega, by omega⟩, ?_⟩
  unfold xw_mAr_copyOf1
  refine m_t rfl ⟨⟨fun g => absurd ((nI_ltI (a := ncp cap cap) (b := 0) (by omega) (by omega)).mp g) (Nat.not_lt_zero _), ?_⟩, ⟨by omega, ?_⟩, ?_⟩
  · rw [nI_clamp (n := ncp cap cap) (by omega)]; omega
  · rw [nI_clamp (n := ncp cap cap) (by omega)]; omega
  rw [nI_clamp (n := ncp cap cap) (by omega)]
  refine g_nwz hM hq (k := 223) ht (fun a M2 hM2 hq2 haz => ?_)
  have hne2 : ∀ j, P j → j ≠ 223 := fun j hj e => ht (e ▸ hj)
  have q2 : ∀ j, P j → va_up q 223 a j = q j := fun j hj => up_n (hne2 j hj)
  have C2 : ∀ j, P j → ∀ x, va_up C 223 x j = C j := fun j hj x => up_n (hne2 j hj)
  unfold xv_mAr_copyOf1_24
  refine m_f e26 ⟨(cap, .inr (.inr (.inr (.inr f)))), ?_, ?_⟩
  · have := g_at hM2 (k := ka) (Or.inl hka) ((C2 ka hka _).trans hf)
    rw [q2 ka hka] at this
    exact this
  show bnd (if nI (ncp cap cap) < nI cap then nI (ncp cap cap) else nI cap) _
  refine m_bn (e' := nI cap) (if_neg (fun g => absurd ((nI_ltI (a := ncp cap cap) (b := cap) (by omega) (by omega)).mp g) (by rw [hnc]; omega))) ?_
  have T : ∀ K : Mm → Prop, (∀ M3, RG (fun j => P j ∨ j = 223) (va_up q 223 a) (va_up (va_up C 223 (.inl (cy 7, ncp cap cap, .inr (.inr (.inr (.inr (fun _ => none))))))) 223 (.inl (cy 7, ncp cap cap, .inr (.inr (.inr (.inr (va_cpy f (fun _ => none) 0 0 cap))))))) M3 → K M3) → mcq M2 cy (q ka) a 0 0 (nI cap) ci K := fun K hK => by
    refine ⟨cap, f, ncp cap cap, fun _ => none, ?_, ?_, ?_, fun i hi y hy => ?_, ?_⟩
    · have := g_at hM2 (k := ka) (Or.inl hka) ((C2 ka hka _).trans hf)
      rw [q2 ka hka] at this
      exact this
    · have := g_at hM2 (k := 223) (Or.inr rfl) up_e
      rw [up_e] at this
      exact this
    · exact cpk_nI (a := 0) (b := 0) (n := cap) (by omega) (by rw [hnc]; omega) (by omega) (by omega)
    · rw [nI_clamp (n := cap) (by omega)] at hi
      obtain ⟨k, k1, k2, fs, k3⟩ := hob i hi
      replace hy : f (0 + i) = some y := hy
      rw [Nat.zero_add, k2] at hy
      have hy := Option.some.inj hy
      subst hy
      refine ⟨fs, ?_⟩
      have := g_at hM2 (k := k) (Or.inl k1) ((C2 k k1 _).trans k3)
      rw [q2 k k1] at this
      exact this
    · have e0 : (0 : Int32).toNatClampNeg = 0 := rfl
      rw [nI_clamp (n := cap) (by omega), e0]
      have := RG_mu hM2 hq2 (k := 223) (Or.inr rfl) (.inl (cy 7, ncp cap cap, .inr (.inr (.inr (.inr (va_cpy f (fun _ => none) 0 0 cap))))))
      rw [show va_up q 223 a 223 = a from up_e] at this
      exact hK _ this
  have hK3 : ∀ M3, RG (fun j => P j ∨ j = 223) (va_up q 223 a) (va_up (va_up C 223 (.inl (cy 7, ncp cap cap, .inr (.inr (.inr (.inr (fun _ => none))))))) 223 (.inl (cy 7, ncp cap cap, .inr (.inr (.inr (.inr (va_cpy f (fun _ => none) 0 0 cap))))))) M3 → oss (some a) fun q5 => oss (some q5) fun q13 => mpt M3 (q kl) 11 0 (.ref q13) fun M14 => oss (some q13) fun q7 => Φ (some q7) M14 := fun M3 hM3 => by
    refine ⟨a, rfl, a, rfl, ?_⟩
    have hkl' := hne2 kl hkl
    have HF : ∀ M4, RG (fun j => P j ∨ j = 223) (va_up q 223 a) (va_up (va_up (va_up C 223 (.inl (cy 7, ncp cap cap, .inr (.inr (.inr (.inr (fun _ => none))))))) 223 (.inl (cy 7, ncp cap cap, .inr (.inr (.inr (.inr (va_cpy f (fun _ => none) 0 0 cap))))))) kl (.inr (11, [.ref a, .int (nI cap), .int mc]))) M4 → oss (some a) fun q7 => Φ (some q7) M4 := fun M4 hM4 => by
      refine ⟨a, rfl, ?_⟩
      obtain ⟨r1, r2⟩ := RG_ren (ka := ka) ht hM4 hq2 hka
      rw [show va_up q 223 a 223 = a from up_e] at r1 r2
      have eq : ∀ j, P j → va_up (va_up q 223 a) ka a j = va_up q ka a j := fun j hj => by
        by_cases g : j = ka
        · rw [g, up_e, up_e]
        · rw [up_n g, up_n g, up_n (hne2 j hj)]
      refine hΦ M4 a (fun j hj => ?_) (fun i j hi hj e => r2 i j hi hj (by rw [eq i hi, eq j hj]; exact e)) haz
      have := r1 j hj
      rw [eq j hj] at this
      by_cases g : j = ka
      · subst g
        rw [up_e] at this ⊢
        rw [up_e, up_n (fun e => hkl' e.symm), up_e] at this
        rw [up_e]
        exact this
      · rw [up_n g] at this ⊢
        rw [up_n g] at this ⊢
        by_cases g2 : j = kl
        · subst g2
          rw [up_e] at this ⊢
          exact this
        · rw [up_n g2, up_n (hne2 j hj), up_n (hne2 j hj)] at this
          rw [up_n g2]
          exact this
    have hpt := g_pt (K := fun M14 => oss (some a) fun q7 => Φ (some q7) M14) hM3 hq2 (k := kl) (ci := 11) (i := 0) (v := .ref a) (Or.inl hkl) ((up_n hkl').trans ((up_n hkl').trans hc)) (by show 0 < 3; decide) HF
    rw [q2 kl hkl] at hpt
    exact hpt
  rcases hci with rfl | rfl
  · exact Or.inl (T _ hK3)
  · exact Or.inr (T _ hK3)
