-- lists of the JDK in the memory: the last element goes, an element is set
set_option maxHeartbeats 2000000 in
theorem w_Rem (fu MC MS : Nat) (cy : Nat → ClassId) (ad : Nat → Nat) (mi : Nat) {P : Nat → Prop} {q : Nat → Nat} {C : Nat → va_E} {M : Mm} (hM : RG P q C M) (hq : IJ P q) {kl ka k : Nat} {E : List Nat} {cap κ σ : Nat} {Φ : Option Nat → Mm → Prop} (h : alR P q C cy kl ka (E ++ [k]) cap) (hne : kl ≠ ka) (hκ : κ ≤ MC ∧ σ ≤ MS) (hΦ : ∀ M' C', RG P q C' M' → (∀ j, j ≠ kl → j ≠ ka → C' j = C j) → alR P q C' cy kl ka E cap → Φ (some (q k)) M') : xw_mAl_remove fu MC MS cy ad mi Φ κ σ M (q kl) (nI E.length) := by
  obtain ⟨hkl, mc, ⟨h1, h2, h3, h4⟩ | ⟨p1, p2, p3, p4, p5, f, p6, p7⟩⟩ := h
  · exact absurd h2 (by simp)
  have hl : (E ++ [k]).length = E.length + 1 := by rw [List.length_append]; rfl
  rw [hl] at p3 p5 p7
  have hm := g_at hM hkl p5
  unfold xw_mAl_remove
  refine m_gi hm rfl ⟨0, 0, hκ, w_Chk fu 0 0 cy ad mi (n := E.length + 1) (by omega) (by omega) ⟨Nat.le_refl _, Nat.le_refl _⟩ (m_gr hm rfl (m_ar (g_at hM p1 p6) (inb_nI (by omega) (by omega)) (x := q k) ?_ (m_ck hm ⟨0, 0, hκ, ?_⟩)))⟩
  · rw [nI_clamp (n := E.length) (by omega), p7 E.length (by omega), gD_al]
  unfold xw_mAl_fastRemove
  refine m_gi hm rfl (m_b (g_pt hM hq hkl p5 (by show 2 < 3; decide) (fun M3 hM3 => ?_)))
  have c3 : va_up C kl (.inr (11, [.ref (q ka), .int (nI (E.length + 1)), .int mc].set 2 (.int (mc + 1)))) kl = .inr (11, [.ref (q ka), .int (nI (E.length + 1)), .int (mc + 1)]) := up_e
  have hm3 := g_at hM3 hkl c3
  refine m_gi hm3 rfl (m_bn (e' := nI E.length) (by rw [show (1 : Int32) = nI 1 from rfl, nI_sb (by omega), Nat.add_sub_cancel]) (m_t ((nI_leI (a := E.length) (b := E.length) (by omega) (by omega)).mpr (Nat.le_refl _)) ?_))
  unfold xv_mAl_fastRemove_34
  refine g_pt hM3 hq hkl c3 (by show 1 < 3; decide) (fun M1 hM1 => g_sr hM1 hq (k := ka) (f := f) (m := cap) p1 ?_ (inb_nI (by omega) (by omega)) (fun M2 hM2 => hΦ M2 _ hM2 (fun j j1 j2 => ?_) ⟨hkl, mc + 1, Or.inr ⟨p1, p2, by omega, p4, ?_, va_up f E.length none, ?_, fun i hi => ?_⟩⟩))
  · rw [up_n (fun e => hne e.symm), up_n (fun e => hne e.symm)]; exact p6
  · rw [up_n j2, up_n j1, up_n j1]
  · rw [up_n hne, up_e]; rfl
  · rw [up_e, nI_clamp (n := E.length) (by omega)]
  · rw [up_n (by omega), p7 i (by omega), gD_ap hi]
set_option maxHeartbeats 2000000 in
theorem w_Set (fu MC MS : Nat) (cy : Nat → ClassId) (ad : Nat → Nat) (mi : Nat) {P : Nat → Prop} {q : Nat → Nat} {C : Nat → va_E} {M : Mm} (hM : RG P q C M) (hq : IJ P q) {kl ka k i : Nat} {E : List Nat} {cap κ σ : Nat} {Φ : Option Nat → Mm → Prop} (h : alR P q C cy kl ka E cap) (hne : kl ≠ ka) (hk : P k) (hi : i < E.length) {ci : Nat} (hci : ci = 1 ∨ ci = 2) (hok : ∃ fs, C k = .inr (ci, fs)) (hκ : κ ≤ MC ∧ σ ≤ MS) (hΦ : ∀ M' C', RG P q C' M' → (∀ j, j ≠ ka → C' j = C j) → alR P q C' cy kl ka (E.set i k) cap → Φ (some (q (E.getD i 0))) M') : xw_mAl_set fu MC MS cy ad mi Φ κ σ M (q kl) (nI i) (q k) := by
  obtain ⟨hkl, mc, ⟨h1, h2, h3, h4⟩ | ⟨p1, p2, p3, p4, p5, f, p6, p7⟩⟩ := h
  · subst h2; exact absurd hi (Nat.not_lt_zero _)
  have hm := g_at hM hkl p5
  unfold xw_mAl_set
  refine m_gi hm rfl ⟨0, 0, hκ, w_Chk fu 0 0 cy ad mi hi (by omega) ⟨Nat.le_refl _, Nat.le_refl _⟩ (m_ck hm ⟨0, 0, hκ, ?_⟩)⟩
  unfold xw_mAl_elementData
  refine m_gr hm rfl (m_ar (g_at hM p1 p6) (inb_nI (by omega) (by omega)) (x := q (E.getD i 0)) (by rw [nI_clamp (n := i) (by omega)]; exact p7 i hi) ⟨_, rfl, m_gr hm rfl ?_⟩)
  have T : mck M (q k) ci (msr M (q ka) (cy 7) (nI i) (some (q k)) fun M14 => Φ (some (q (E.getD i 0))) M14) := by
    obtain ⟨fs, hfs⟩ := hok
    refine m_ck (g_at hM hk hfs) (g_sr hM hq p1 p6 (inb_nI (by omega) (by omega)) (fun M2 hM2 => hΦ M2 _ hM2 (fun j j2 => up_n j2) ⟨hkl, mc, Or.inr ⟨p1, p2, by rw [List.length_set]; exact p3, p4, by rw [up_n hne, List.length_set]; exact p5, va_up f i (some (q k)), ?_, fun j hj => ?_⟩⟩))
    · rw [up_e, nI_clamp (n := i) (by omega)]
    · rw [List.length_set] at hj
      rw [List.getD_eq_getElem?_getD, List.getElem?_set]
      by_cases e : i = j
      · subst e
        rw [up_e, if_pos rfl, if_pos hj]; rfl
      · rw [up_n (fun e' => e e'.symm), if_neg e, p7 j hj, List.getD_eq_getElem?_getD]
  rcases hci with rfl | rfl
  · exact Or.inl T
  · exact Or.inr T
