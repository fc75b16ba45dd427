-- blocks in the memory: the median
def hold (w : Nat → Int64) (X : List Nat) : Prop := ∀ i, i < X.length → w i = lN (X.getD i 0)
set_option maxHeartbeats 1000000 in
theorem hold_s {w : Nat → Int64} {X : List Nat} (h : hold w X) (i v : Nat) : hold (vp_updL w i (lN v)) (X.set i v) := fun j hj => by
  rw [List.length_set] at hj
  rw [List.getD_eq_getElem?_getD, List.getElem?_set]
  by_cases e : i = j
  · subst e
    rw [if_pos rfl, if_pos hj, pk_uLs]; rfl
  · rw [if_neg e, pk_uLn (fun x => e x.symm), h j hj, List.getD_eq_getElem?_getD]
set_option maxHeartbeats 1000000 in
theorem set_mid {α : Type} (L R : List α) (g v : α) : (L ++ g :: R).set L.length v = L ++ v :: R := by
  rw [List.set_append_right _ _ (Nat.le_refl _), Nat.sub_self]
  rfl
set_option maxHeartbeats 1000000 in
theorem hold_g {w : Nat → Int64} {L R : List Nat} {g : Nat} (h : hold w (L ++ g :: R)) : w L.length = lN g := by
  have := h L.length (by rw [List.length_append, List.length_cons]; omega)
  rw [List.getD_eq_getElem?_getD, List.getElem?_append_right (Nat.le_refl _), Nat.sub_self] at this
  exact this
set_option maxHeartbeats 1000000 in
theorem insr_a {x : Nat} : ∀ {A1 A2 : List Nat}, (∀ y, y ∈ A1 → x < y) → (∀ y T, A2 = y :: T → ¬ x < y) → insr x (A1 ++ A2) = A1 ++ x :: A2
  | [], [], _, _ => rfl
  | [], y :: T, _, h => by
    show (if x < y then y :: insr x T else x :: y :: T) = x :: y :: T
    rw [if_neg (h y T rfl)]
  | z :: A1, A2, h1, h2 => by
    show (if x < z then z :: insr x (A1 ++ A2) else x :: z :: (A1 ++ A2)) = z :: (A1 ++ x :: A2)
    rw [if_pos (h1 z List.mem_cons_self), insr_a (fun y hy => h1 y (List.mem_cons_of_mem _ hy)) h2]
set_option maxHeartbeats 1000000 in
set_option maxHeartbeats 1000000 in
/-- one time goes to its place -/
theorem w_med22 (fu MC MS : Nat) (cy : Nat → ClassId) (ad : Nat → Nat) (mi : Nat) {P : Nat → Prop} {q : Nat → Nat} {C : Nat → va_E} (hq : IJ P q) {k9 : Nat → Nat → Mm → Nat → Int32 → Option Nat → Prop} {Φ : Int64 → Mm → Prop} {κ σ kw kb x : Nat} (hw : P kw) (hb : P kb) (hne : kb ≠ kw) {fs : List Value} (hx : C kb = .inr (1, fs)) (hf : fs[5]? = some (.long (lN x))) (hx2 : x < 2 ^ 32) {T A : List Nat} (hT : T.length + A.length + 1 ≤ 11) (hA : ∀ y, y ∈ A → y < 2 ^ 32) {m : Nat} (hE : ∀ M' w', RG P q (va_up C kw (.inl (cy 2, 11, .inr (.inl w')))) M' → hold w' ((insr x A).reverse ++ T) → bnd (nI m + 1) fun v3 => mgr M' (q kb) 1 0 fun r4 => osp r4 (k9 κ σ M' (q kw) v3 Option.none) fun q5 => k9 κ σ M' (q kw) v3 (some q5)) : ∀ (A2 A1 : List Nat) (n g : Nat) (M : Mm) (w : Nat → Int64), A1 ++ A2 = A → (∀ y, y ∈ A1 → x < y) → A2.length < n → RG P q (va_up C kw (.inl (cy 2, 11, .inr (.inl w)))) M → hold w (A2.reverse ++ g :: (A1.reverse ++ T)) → xw_mBl_median_22 fu MC MS cy ad mi Φ k9 n κ σ M (q kw) (nI m) (q kb) (nI A2.length)
  | A2, A1, n + 1, g, M, w, hAA, h1, hn, hM, hh => by
    have hlen : A1.length + A2.length = A.length := by rw [← hAA, List.length_append]
    have cw : va_up C kw (.inl (cy 2, 11, .inr (.inl w))) kw = .inl (cy 2, 11, .inr (.inl w)) := up_e
    have cb : va_up C kw (.inl (cy 2, 11, .inr (.inl w))) kb = .inr (1, fs) := (up_n hne).trans hx
    show xv_mBl_median_22 fu MC MS cy ad mi Φ k9 (xw_mBl_median_22 fu MC MS cy ad mi Φ k9 n) κ σ M (q kw) (nI m) (q kb) (nI A2.length)
    have EX : (∀ y T, A2 = y :: T → ¬ x < y) → xv_mBl_median_57 fu MC MS cy ad mi Φ k9 κ σ M (q kw) (nI m) (q kb) (nI A2.length) := fun hy => by
      unfold xv_mBl_median_57
      refine m_gj (g_at hM hb cb) hf (g_sj hM hq hw cw (inb_nI (by omega) (by decide)) (fun M2 hM2 => ?_))
      rw [nI_clamp (n := A2.length) (by omega)] at hM2
      have h2 := hold_s hh A2.length x
      rw [show A2.length = A2.reverse.length from List.length_reverse.symm, set_mid] at h2
      rw [List.length_reverse] at h2
      refine hE M2 (vp_updL w A2.length (lN x)) (RG_c hM2 fun k _ => ?_) ?_
      · by_cases e : k = kw
        · rw [e, up_e, up_e]
        · rw [up_n e, up_n e, up_n e]
      · rw [← hAA, insr_a h1 hy, List.reverse_append, List.reverse_cons, List.append_assoc, List.append_assoc]
        exact h2
    unfold xv_mBl_median_22
    match A2, hAA, hn, hh, EX, hlen with
    | [], hAA, hn, hh, EX, hlen => exact m_t (by decide) (EX fun y T e => by cases e)
    | y :: A2, hAA, hn, hh, EX, hlen =>
      rw [List.length_cons] at hlen hn
      refine m_f (fun z => absurd ((nI_leI (a := A2.length + 1) (b := 0) (by omega) (by omega)).mp z) (by omega)) ?_
      have e1 : nI (A2.length + 1) - 1 = nI A2.length := by rw [show (1 : Int32) = nI 1 from rfl, nI_sb (by omega), Nat.add_sub_cancel]
      have hy2 : y < 2 ^ 32 := hA y (by rw [← hAA]; exact List.mem_append_right _ List.mem_cons_self)
      have hh2 : hold w (A2.reverse ++ y :: (g :: (A1.reverse ++ T))) := by
        rw [List.reverse_cons, List.append_assoc] at hh; exact hh
      have hwy := hold_g hh2
      rw [List.length_reverse] at hwy
      have hc : lg_cmp (lN y) (lN x) ≤ 0 ↔ y ≤ x := by
        rw [lg_le' (lN_I (by omega)) (lN_I (by omega))]; omega
      refine m_bn e1 (m_aj (g_at hM hw cw) (inb_nI (by omega) (by decide)) ?_)
      rw [nI_clamp (n := A2.length) (by omega), hwy]
      refine m_gj (g_at hM hb cb) hf ?_
      by_cases gg : y ≤ x
      · exact m_t (hc.mpr gg) (EX fun y' T e => by
          have e' := (List.cons.inj e).1
          omega)
      · refine m_f (fun z => gg (hc.mp z)) (m_bn e1 (m_aj (g_at hM hw cw) (inb_nI (by omega) (by decide)) ?_))
        rw [nI_clamp (n := A2.length) (by omega), hwy]
        refine g_sj hM hq hw cw (inb_nI (n := 11) (by show A2.length + 1 < 11; omega) (by decide)) (fun M2 hM2 => m_bn (e' := nI A2.length) ?_ ?_)
        · exact m1_e (a := A2.length + 1) (Nat.succ_pos _)
        rw [List.length_cons, nI_clamp (n := A2.length + 1) (by omega)] at hM2
        have h3 := hold_s hh (A2.length + 1) y
        rw [show A2.length + 1 = (y :: A2).reverse.length from by rw [List.length_reverse, List.length_cons], set_mid, List.reverse_cons, List.append_assoc] at h3
        rw [List.length_append, List.length_reverse] at h3
        refine w_med22 fu MC MS cy ad mi hq hw hb hne hx hf hx2 hT hA hE A2 (A1 ++ [y]) n y M2 (vp_updL w (A2.length + 1) (lN y)) (by rw [List.append_assoc]; exact hAA) (fun z hz => ?_) (by omega) (RG_c hM2 fun k _ => ?_) ?_
        · rcases List.mem_append.mp hz with hz | hz
          · exact h1 z hz
          · rw [List.mem_singleton.mp hz]; omega
        · by_cases e : k = kw
          · rw [e, up_e, up_e]
          · rw [up_n e, up_n e, up_n e]
        · rw [List.reverse_append]
          exact h3
