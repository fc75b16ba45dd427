-- the small calls of the keeper: count, digest, unspent
set_option maxHeartbeats 400000 in
theorem adO_nd {rw : Nat → List Int32} {b t : Nat} {U : List Cn} (h : U.Nodup) : ∀ j, (adO rw b t U j).Nodup
  | 0 => h
  | j + 1 => by
    refine List.nodup_append.mpr ⟨(adO_nd h j).filter _, List.nodup_cons.mpr ⟨List.not_mem_nil, List.nodup_nil⟩, fun x hx y hy e => ?_⟩
    rw [List.mem_singleton.mp hy] at e
    have := (List.mem_filter.mp hx).2
    rw [e] at this
    exact absurd rfl (of_decide_eq_true this)
set_option maxHeartbeats 400000 in
theorem stp0_nd {rw : Nat → List Int32} {hgt : Nat → Nat} {b t : Nat} {U : List Cn} (h : U.Nodup) : (stp0 rw hgt b t U).2.1.Nodup := by
  unfold stp0
  by_cases g : t = 0
  · rw [if_pos g]; exact adO_nd h _
  rw [if_neg g]
  by_cases g1 : none ∈ spn rw b t U
  · rw [if_pos g1]; exact h
  rw [if_neg g1]
  by_cases g2 : (spC rw b t U).any (unR hgt b) = true
  · rw [if_pos g2]; exact h
  rw [if_neg g2]
  by_cases g3 : sumL (cnV rw) (spC rw b t U) < ouS rw b t
  · rw [if_pos g3]; exact h
  rw [if_neg g3]
  exact adO_nd (h.filter _) _
set_option maxHeartbeats 400000 in
theorem vlR_nd {sgB : Nat → List Int32 → List Int32 → Bool} {rw : Nat → List Int32} {hgt : Nat → Nat} {b : Nat} : ∀ n t U fee r, vlR sgB rw hgt b n t U fee r → U.Nodup → r.1 = 0 → r.2.1.Nodup
  | 0, t, U, fee, r, h, hn, _ => by
    replace h : r = (0, U, fee) := h
    rw [h]
    exact hn
  | n + 1, t, U, fee, r, ⟨s, h1, h2⟩, hn, h0 => by
    rcases h2 with ⟨a, b⟩ | ⟨a, b⟩
    · exact absurd (b.symm.trans h0) a
    · refine vlR_nd n (t + 1) s.2.1 _ r b ?_ h0
      rcases h1 with ⟨_, _, _, e⟩ | ⟨_, e⟩
      · rw [a] at e
        exact absurd e (by decide)
      · rw [e]
        exact stp0_nd hn
set_option maxHeartbeats 400000 in
theorem evW_nd {sgB : Nat → List Int32 → List Int32 → Bool} {rw : Nat → List Int32} {hgt : Nat → Nat} : ∀ bs U x U', evW sgB rw hgt bs U 0 x U' → U.Nodup → U'.Nodup
  | [], U, x, U', h, hn => by rw [h.2]; exact hn
  | b :: bs, U, x, U', ⟨v, V, h1, h2⟩, hn => by
    rcases h2 with ⟨a, b, _⟩ | ⟨a, b⟩
    · exact absurd b.symm a
    · refine evW_nd bs V x U' b ?_
      obtain ⟨r, r1, r2⟩ := h1
      rcases r2 with ⟨e1, e2⟩ | ⟨e1, e2, e3⟩
      · rw [a] at e2
        exact absurd e2.symm e1
      · rw [e2]
        exact vlR_nd _ _ _ _ r r1 hn e1
set_option maxHeartbeats 400000 in
/-- sums over lists with the same members -/
theorem sum_er {α : Type} (add : α → α → α) (zero : α) (ac : ∀ a b c, add a (add b c) = add b (add a c)) (f : Cn → α) : ∀ (U : List Cn) (x : Cn), x ∈ U → U.foldr (fun c h => add (f c) h) zero = add (f x) ((U.erase x).foldr (fun c h => add (f c) h) zero)
  | y :: U, x, h => by
    by_cases e : y = x
    · subst e
      rw [List.erase_cons_head]
      rfl
    · rw [List.erase_cons_tail (by intro z; exact e (beq_iff_eq.mp z))]
      show add (f y) (U.foldr _ zero) = add (f x) (add (f y) ((U.erase x).foldr _ zero))
      rw [sum_er add zero ac f U x ((List.mem_cons.mp h).resolve_left (fun z => e z.symm)), ac]
set_option maxHeartbeats 400000 in
theorem sum_nd {α : Type} (add : α → α → α) (zero : α) (ac : ∀ a b c, add a (add b c) = add b (add a c)) (f : Cn → α) : ∀ (L U : List Cn), L.Nodup → U.Nodup → (∀ x, x ∈ L ↔ x ∈ U) → L.foldr (fun c h => add (f c) h) zero = U.foldr (fun c h => add (f c) h) zero
  | [], U, _, _, h => by
    cases U with
    | nil => rfl
    | cons x U => exact absurd ((h x).mpr List.mem_cons_self) List.not_mem_nil
  | x :: L, U, hL, hU, h => by
    have hx : x ∈ U := (h x).mp List.mem_cons_self
    have hxL := (List.nodup_cons.mp hL).1
    rw [sum_er add zero ac f U x hx]
    show add (f x) (L.foldr _ zero) = _
    rw [sum_nd add zero ac f L (U.erase x) (List.nodup_cons.mp hL).2 (hU.erase x) (fun y => ?_)]
    constructor
    · intro hy
      refine (List.mem_erase_of_ne (show y ≠ x from fun e => hxL (e ▸ hy))).mpr ((h y).mp (List.mem_cons_of_mem _ hy))
    · intro hy
      have hne : y ≠ x := fun e => by
        rw [e] at hy
        exact (List.Nodup.not_mem_erase hU) hy
      have := (h y).mpr ((List.mem_erase_of_ne hne).mp hy)
      exact (List.mem_cons.mp this).resolve_left hne
set_option maxHeartbeats 400000 in
theorem sumL_fr (f : Cn → Nat) : ∀ L : List Cn, sumL f L = L.foldr (fun c h => f c + h) 0
  | [] => rfl
  | x :: L => by
    show f x + sumL f L = f x + _
    rw [sumL_fr f L]
set_option maxHeartbeats 400000 in
theorem sumL_nd {f : Cn → Nat} {L U : List Cn} (h1 : L.Nodup) (h2 : U.Nodup) (h : ∀ x, x ∈ L ↔ x ∈ U) : sumL f L = sumL f U := by
  rw [sumL_fr, sumL_fr]
  exact sum_nd (fun a b => a + b) 0 (fun a b c => by omega) f L U h1 h2 h
set_option maxHeartbeats 400000 in
theorem fold_a (g : Cn → Int64) : ∀ (L : List Cn) (a : Int64), L.foldl (fun h c => h + g c) a = a + L.foldr (fun c h => g c + h) 0
  | [], a => (Int64.add_zero a).symm
  | x :: L, a => by
    show L.foldl (fun h c => h + g c) (a + g x) = a + (g x + _)
    rw [fold_a g L, Int64.add_assoc]
set_option maxHeartbeats 400000 in
theorem dgS_nd {rw : Nat → List Int32} {L U : List Cn} (h1 : L.Nodup) (h2 : U.Nodup) (h : ∀ x, x ∈ L ↔ x ∈ U) : dgS rw L = dgS rw U := by
  unfold dgS
  rw [fold_a, fold_a, sum_nd (fun a b : Int64 => a + b) 0 (fun a b c => by rw [← Int64.add_assoc, ← Int64.add_assoc, Int64.add_comm a b]) (dgC rw) L U h1 h2 h]
set_option maxHeartbeats 400000 in
theorem nBad_le (bad : Nat → Bool) : ∀ n, nBad bad n ≤ n
  | 0 => Nat.le_refl _
  | n + 1 => by
    have := nBad_le bad n
    show nBad bad n + (if bad n = true then 1 else 0) ≤ n + 1
    split <;> omega
set_option maxHeartbeats 400000 in
theorem sumL_len (L : List Cn) : sumL (fun _ => 1) L = L.length := by
  induction L with
  | nil => rfl
  | cons x L ih =>
    show 1 + sumL (fun _ => 1) L = L.length + 1
    omega
set_option maxHeartbeats 1000000 in
theorem w_vals (fu MC MS : Nat) (cy : Nat → ClassId) (ad : Nat → Nat) (mi : Nat) {P : Nat → Prop} {q : Nat → Nat} {C : Nat → va_E} {M : Mm} (hM : RG P q C M) {nb : Nat} {par hgt tim : Nat → Nat} {bit : Nat → Int32} {bad : Nat → Bool} {rw : Nat → List Int32} {vl : Nat → Bool} {mk : Nat → Nat} {sl : Cn → Int32} {L H : List Cn} {cu ch : Nat} (hS : ldS P q C cy ad nb par hgt tim bit bad rw vl mk sl L H cu ch) {κ σ : Nat} (hκ : κ ≤ MC ∧ σ ≤ MS) {Φ : Int64 → Mm → Prop} (hΦ : Φ (lN (sumL (cnV rw) L)) M) : ∀ r i m, i + r = L.length → r < m → xw_mLe_values_4 fu MC MS cy ad mi Φ m κ σ M (q 130) (lN (sumL (cnV rw) (L.take i))) (nI i)
  | r, i, m + 1, hi, hm => by
    show xv_mLe_values_4 fu MC MS cy ad mi Φ (xw_mLe_values_4 fu MC MS cy ad mi Φ m) κ σ M (q 130) (lN (sumL (cnV rw) (L.take i))) (nI i)
    unfold xv_mLe_values_4
    obtain ⟨⟨hq, hP, -⟩, hB, h130, hLu, -, hvL, -⟩ := id hS
    have m130 := g_at hM (hP 130 (by decide)) h130
    obtain ⟨ll, lc, ee, mm, h131⟩ := al_s hLu
    rw [List.length_map] at ll
    have m131 := g_at hM (hP 131 (by decide)) h131
    refine m_gr m130 rfl (m_ck m131 ⟨0, 0, hκ, w_Size fu 0 0 cy ad mi hM hLu ?_⟩)
    rw [List.length_map]
    match r, hi, hm with
    | 0, hi, hm =>
      have ec : L.take i = L := List.take_of_length_le (by omega)
      rw [ec]
      exact m_t ((nI_leI (a := L.length) (b := i) (by omega) (by omega)).mpr (by omega)) hΦ
    | r + 1, hi, hm =>
      have hiL : i < L.length := by omega
      refine m_f (fun z => absurd ((nI_leI (a := L.length) (b := i) (by omega) (by omega)).mp z) (by omega)) (m_gr m130 rfl (m_ck m131 ⟨0, 0, hκ, w_Get fu 0 0 cy ad mi hM hLu (i := i) (by rw [List.length_map]; exact hiL) ⟨Nat.le_refl _, Nat.le_refl _⟩ ?_⟩))
      rw [gDc hiL]
      obtain ⟨pc, cc⟩ := hB.2 _ (hvL _ (gDe hiL))
      have mc := g_at hM pc cc
      refine ⟨_, rfl, m_ck mc (m_gj mc rfl (m_bn (e' := lN (sumL (cnV rw) (L.take (i + 1)))) (by rw [sumL_tk (cnV rw) e_C L hiL]; exact lN_a _ _) (m_bn (e' := nI (i + 1)) (nI_add i 1) ?_)))⟩
      exact w_vals fu MC MS cy ad mi hM hS hκ hΦ r (i + 1) m (by omega) (by omega)
set_option maxHeartbeats 1000000 in
theorem w_dsum (fu MC MS : Nat) (cy : Nat → ClassId) (ad : Nat → Nat) (mi : Nat) {P : Nat → Prop} {q : Nat → Nat} {C : Nat → va_E} {M : Mm} (hM : RG P q C M) {nb : Nat} {par hgt tim : Nat → Nat} {bit : Nat → Int32} {bad : Nat → Bool} {rw : Nat → List Int32} {vl : Nat → Bool} {mk : Nat → Nat} {sl : Cn → Int32} {L H : List Cn} {cu ch : Nat} (hS : ldS P q C cy ad nb par hgt tim bit bad rw vl mk sl L H cu ch) (hO : oK rw nb) {κ σ : Nat} (hκ : κ ≤ MC ∧ σ ≤ MS) {Φ : Int64 → Mm → Prop} (hΦ : Φ (dgS rw L) M) : ∀ r i m, i + r = L.length → r < m → xw_mLe_sum_4 fu MC MS cy ad mi Φ m κ σ M (q 130) (dgS rw (L.take i)) (nI i)
  | r, i, m + 1, hi, hm => by
    show xv_mLe_sum_4 fu MC MS cy ad mi Φ (xw_mLe_sum_4 fu MC MS cy ad mi Φ m) κ σ M (q 130) (dgS rw (L.take i)) (nI i)
    unfold xv_mLe_sum_4
    obtain ⟨⟨hq, hP, -⟩, hB, h130, hLu, -, hvL, -⟩ := id hS
    have m130 := g_at hM (hP 130 (by decide)) h130
    obtain ⟨ll, lc, ee, mm, h131⟩ := al_s hLu
    rw [List.length_map] at ll
    have m131 := g_at hM (hP 131 (by decide)) h131
    refine m_gr m130 rfl (m_ck m131 ⟨0, 0, hκ, w_Size fu 0 0 cy ad mi hM hLu ?_⟩)
    rw [List.length_map]
    match r, hi, hm with
    | 0, hi, hm =>
      have ec : L.take i = L := List.take_of_length_le (by omega)
      rw [ec]
      exact m_t ((nI_leI (a := L.length) (b := i) (by omega) (by omega)).mpr (by omega)) hΦ
    | r + 1, hi, hm =>
      have hiL : i < L.length := by omega
      refine m_f (fun z => absurd ((nI_leI (a := L.length) (b := i) (by omega) (by omega)).mp z) (by omega)) (m_gr m130 rfl (m_ck m131 ⟨0, 0, hκ, w_Get fu 0 0 cy ad mi hM hLu (i := i) (by rw [List.length_map]; exact hiL) ⟨Nat.le_refl _, Nat.le_refl _⟩ ?_⟩))
      rw [gDc hiL]
      have hcv := hvL _ (gDe hiL)
      obtain ⟨pc, cc⟩ := hB.2 _ hcv
      obtain ⟨x, hx⟩ : ∃ x, x = L.getD i e_C := ⟨_, rfl⟩
      rw [← hx] at pc cc hcv ⊢
      have mc := g_at hM pc cc
      have hx5 : x.2.2 < 2 ^ 31 := by
        have := hO x hcv
        unfold ckO at this
        omega
      have eA : ((31 : Int64) * (nI (leP (idT rw x.1 x.2.1) 0 4)).toInt64 + (nI x.2.2).toInt64) * 31 + lN (cnV rw x) = dgA rw x := by
        unfold dgA
        rw [iL hx5, Int64.mul_comm _ 31]
      refine ⟨_, rfl, m_ck mc (m_gi mc rfl (m_b (m_gi mc rfl (m_b (m_b (m_gj mc rfl (m_bn eA (m_b (m_bn (e' := dgS rw (L.take (i + 1))) ?_ (m_bn (e' := nI (i + 1)) (nI_add i 1) ?_)))))))))) ⟩
      · rw [tk_s hiL, ← hx]
        show dgS rw (L.take i) + dgC rw x = (L.take i ++ [x]).foldl (fun h c => h + dgC rw c) 0
        rw [List.foldl_append]
        rfl
      · exact w_dsum fu MC MS cy ad mi hM hS hO hκ hΦ r (i + 1) m (by omega) (by omega)
set_option maxHeartbeats 400000 in
/-- what is known of the ledger between calls -/
theorem kp_U {sgB : Nat → List Int32 → List Int32 → Bool} {S : Ab} {R : List Int32} {vl : Nat → Bool} {mk : Nat → Nat} {s : Ld} {cb : Nat} (h : kpP sgB S R vl mk s cb) : s.1.Nodup ∧ S.2.2.2.2.2.2.2.2.Nodup ∧ (∀ x, x ∈ s.1 ↔ x ∈ S.2.2.2.2.2.2.2.2) ∧ kyU S.2.2.2.2.2.2.1 s.1 ∧ s.1.length ≤ 8010 := by
  obtain ⟨hI, -, hJ, -⟩ := h
  obtain ⟨h1, h2, h3, h4, i, h5⟩ := hJ
  have hl := ldI_s h1
  have hb := h1.2.2.2.2.2.1
  exact ⟨h1.1, evW_nd _ _ _ _ h5 List.nodup_nil, h4, hl.2, by omega⟩
set_option maxHeartbeats 2000000 in
theorem w_count {F : Type} [Lean.Grind.Field F] [DecidableEq F] {c : Int → F} (fu MC MS : Nat) (cy : Nat → ClassId) (ad : Nat → Nat) (mi : Nat) (hfu : 9000 ≤ fu) {P : Nat → Prop} {q : Nat → Nat} {C : Nat → va_E} {M : Mm} {S : Ab} {R : List Int32} {vl : Nat → Bool} {mk : Nat → Nat} {s : Ld} {cb : Nat} (h : kpS c P q C M cy ad S R vl mk s cb) {sgB : Nat → List Int32 → List Int32 → Bool} (hp : kpP sgB S R vl mk s cb) {k : Nat} (hk : k < 6) {κ σ : Nat} (hκ : κ ≤ MC ∧ σ ≤ MS) {Φ : Int64 → Mm → Prop} (hΦ : Φ (ctA S.2.1 S.2.2.2.2.1 S.2.2.2.2.2.1 S.2.2.2.2.2.2.1 S.1 S.2.2.2.2.2.2.2.1 S.2.2.2.2.2.2.2.2 R k) M) : xw_mK_count fu MC MS cy ad mi Φ κ σ M (q 103) (nI k) := by
  obtain ⟨u1, u2, u3, u4, u5⟩ := kp_U hp
  obtain ⟨hI, -, -, ⟨hR, -⟩, -⟩ := hp
  obtain ⟨nb, par, hgt, tim, bit, bad, rw, tip, U⟩ := S
  replace hI : aI sgB nb par hgt tim bit bad rw tip U := hI
  obtain ⟨⟨i1, i2⟩, hA, hp, hh, hti, hdi, hsB, ⟨htip, ix, hU⟩, hb0⟩ := id hI
  obtain ⟨⟨hM, ⟨sl, hS⟩, ⟨ck', hK⟩, -, -, -, hal⟩, -⟩ := h
  obtain ⟨hq, hP, -⟩ := hS.1
  have m103 := g_at hM (hP 103 (by decide)) hK
  have m130 := g_at hM (hP 130 (by decide)) hS.2.2.1
  obtain ⟨-, -, ee, mm, h133⟩ := al_s hal
  obtain ⟨⟨p0, -⟩, c0, -⟩ := hS.2.1.1 tip htip
  unfold xw_mK_count
  refine m_f (fun z => absurd ((nI_ltI (a := k) (b := 0) (by omega) (by omega)).mp z) (Nat.not_lt_zero _)) (m_t ((nI_leI (a := k) (b := 5) (by omega) (by omega)).mpr (by omega)) ?_)
  have hne : ∀ m, m < 100 → k ≠ m → ¬ nI k = nI m := fun m hm he z => he ((nI_eq32 (a := k) (b := m) (by omega) (by omega)).mp z)
  unfold ctA at hΦ
  by_cases e0 : k = 0
  · rw [if_pos e0] at hΦ
    subst e0
    refine m_t rfl (m_gr m103 rfl (m_ck (g_at hM (hP 133 (by decide)) h133) ⟨0, 0, by omega, w_Size fu 0 0 cy ad mi hM hal ?_⟩))
    rw [blL_l]
    refine m_bn (e' := lN (nb - 1)) ?_ hΦ
    rw [show nI nb - 1 = nI (nb - 1) from nI_sb (a := nb) (b := 1) (by omega)]
    exact iL (by omega)
  rw [if_neg e0] at hΦ
  refine m_f (hne 0 (by decide) e0) ?_
  by_cases e1 : k = 1
  · rw [if_pos e1] at hΦ
    subst e1
    refine m_t rfl (m_ck m103 ⟨0, 0, by omega, ?_⟩)
    unfold xw_mK_badBlocks
    refine w_bad fu 0 0 cy ad mi hM hS.2.1 (by omega) (hP 103 (by decide)) hK hal ⟨Nat.le_refl _, Nat.le_refl _⟩ ?_ nb 0 fu (Nat.zero_add _) (by omega)
    have hle : nBad bad nb ≤ nb := nBad_le bad nb
    exact m_bn (e' := lN (nBad bad nb)) (iL (n := nBad bad nb) (by omega)) hΦ
  rw [if_neg e1] at hΦ
  refine m_f (hne 1 (by decide) e1) ?_
  by_cases e2 : k = 2
  · rw [if_pos e2] at hΦ
    subst e2
    refine m_t rfl (m_gr m103 rfl (m_ck m130 ⟨0, 0, by omega, ?_⟩))
    unfold xw_mLe_size
    obtain ⟨-, -, ee, mm, h131⟩ := al_s hS.2.2.2.1
    refine m_gr m130 rfl (m_ck (g_at hM (hP 131 (by decide)) h131) ⟨0, 0, ⟨Nat.le_refl _, Nat.le_refl _⟩, w_Size fu 0 0 cy ad mi hM hS.2.2.2.1 ?_⟩)
    rw [List.length_map]
    refine m_bn (e' := lN s.1.length) (iL (by omega)) ?_
    rw [← sumL_nd (f := fun _ => 1) u1 u2 u3, sumL_len] at hΦ
    exact hΦ
  rw [if_neg e2] at hΦ
  refine m_f (hne 2 (by decide) e2) ?_
  by_cases e3 : k = 3
  · rw [if_pos e3] at hΦ
    subst e3
    refine m_t rfl (m_gr m103 rfl (m_ck m130 ⟨0, 0, by omega, ?_⟩))
    unfold xw_mLe_values
    rw [← sumL_nd (f := cnV rw) u1 u2 u3] at hΦ
    exact w_vals fu 0 0 cy ad mi hM hS ⟨Nat.le_refl _, Nat.le_refl _⟩ hΦ s.1.length 0 fu (Nat.zero_add _) (by omega)
  rw [if_neg e3] at hΦ
  refine m_f (hne 3 (by decide) e3) ?_
  by_cases e4 : k = 4
  · rw [if_pos e4] at hΦ
    subst e4
    exact m_t rfl (m_gr m103 rfl (m_gj (g_at hM p0 c0) rfl hΦ))
  rw [if_neg e4] at hΦ
  exact m_f (hne 4 (by decide) e4) (m_gi m103 rfl (m_bn (e' := lN R.length) (iL (by omega)) hΦ))
set_option maxHeartbeats 400000 in
theorem w_digest {F : Type} [Lean.Grind.Field F] [DecidableEq F] {c : Int → F} (fu MC MS : Nat) (cy : Nat → ClassId) (ad : Nat → Nat) (mi : Nat) (hfu : 9000 ≤ fu) {P : Nat → Prop} {q : Nat → Nat} {C : Nat → va_E} {M : Mm} {S : Ab} {R : List Int32} {vl : Nat → Bool} {mk : Nat → Nat} {s : Ld} {cb : Nat} (h : kpS c P q C M cy ad S R vl mk s cb) {sgB : Nat → List Int32 → List Int32 → Bool} (hp : kpP sgB S R vl mk s cb) {κ σ : Nat} (hκ : κ ≤ MC ∧ σ ≤ MS) {Φ : Int64 → Mm → Prop} (hΦ : Φ (dgS S.2.2.2.2.2.2.1 S.2.2.2.2.2.2.2.2) M) : xw_mK_digest fu MC MS cy ad mi Φ κ σ M (q 103) := by
  obtain ⟨u1, u2, u3, u4, u5⟩ := kp_U hp
  obtain ⟨hI, -⟩ := hp
  have hO := oK_a hI.2.1
  obtain ⟨⟨hM, ⟨sl, hS⟩, ⟨ck', hK⟩, -⟩, -⟩ := h
  obtain ⟨hq, hP, -⟩ := hS.1
  unfold xw_mK_digest
  refine m_gr (g_at hM (hP 103 (by decide)) hK) rfl (m_ck (g_at hM (hP 130 (by decide)) hS.2.2.1) ⟨0, 0, by omega, ?_⟩)
  unfold xw_mLe_sum
  rw [← dgS_nd u1 u2 u3] at hΦ
  exact w_dsum fu 0 0 cy ad mi hM hS hO ⟨Nat.le_refl _, Nat.le_refl _⟩ hΦ s.1.length 0 fu (Nat.zero_add _) (by omega)
set_option maxHeartbeats 400000 in
theorem w_unsp {F : Type} [Lean.Grind.Field F] [DecidableEq F] {c : Int → F} (fu MC MS : Nat) (cy : Nat → ClassId) (ad : Nat → Nat) (mi : Nat) (hfu : 9000 ≤ fu) {P : Nat → Prop} {q : Nat → Nat} {C : Nat → va_E} {M : Mm} {S : Ab} {R : List Int32} {vl : Nat → Bool} {mk : Nat → Nat} {s : Ld} {cb : Nat} (h : kpS c P q C M cy ad S R vl mk s cb) {sgB : Nat → List Int32 → List Int32 → Bool} (hp : kpP sgB S R vl mk s cb) (x : Int32) (h32 : R.length = 32) {y : Cn} (hy : fnd S.2.2.2.2.2.2.1 S.2.2.2.2.2.2.2.2 (R, U x) = some y) {κ σ : Nat} (hκ : κ ≤ MC ∧ σ ≤ MS) {Φ : Int64 → Mm → Prop} (hΦ : ∀ M', kpS c P q C M' cy ad S R vl mk s cb → Φ (lN (cnV S.2.2.2.2.2.2.1 y)) M') : xw_mK_unspent fu MC MS cy ad mi Φ κ σ M (q 103) x := by
  obtain ⟨u1, u2, u3, u4, u5⟩ := kp_U hp
  obtain ⟨hI, -⟩ := hp
  have hO := oK_a hI.2.1
  have hr0 := TLb_0 hI.2.1.1
  have h' := h
  obtain ⟨⟨hM, ⟨sl, hS⟩, ⟨ck', hK⟩, -⟩, ⟨g, h104, hg, hgf⟩, -⟩ := h'
  obtain ⟨hq, hP, -⟩ := hS.1
  have m103 := g_at hM (hP 103 (by decide)) hK
  unfold xw_mK_unspent
  refine m_gi m103 rfl (m_t (by rw [h32]; rfl) (m_gr m103 rfl (m_gr m103 rfl (m_ck (g_at hM (hP 130 (by decide)) hS.2.2.1) ⟨0, 0, by omega, ?_⟩))))
  have eR : bl g 0 32 = R := by
    have e1 : bl g 0 32 = bl (lf R) 0 32 := bl_c _ _ _ fun j hj => by rw [Nat.zero_add]; exact hg j (by omega)
    rw [e1, ← h32]
    exact bl_lf R
  have key := w_find fu 0 0 cy ad mi (by omega) hM hS hr0 hO (by omega) (hP 104 (by decide)) h104 (by decide) (a := 0) (idx := U x) (by decide) (U_lt x) ⟨Nat.le_refl _, Nat.le_refl _⟩ (Φ := fun v9 M8 => osp v9 (False) fun q10 => mgj M8 q10 2 4 fun v11 => Φ v11 M8) (fun M1 hM1 => ?_)
  · rw [nI_U] at key
    exact key
  rw [eR, fnd_p u3 u4, hy]
  have hyv : cVd S.2.2.2.2.2.2.1 S.1 y := by
    have := (fnd_in hy).1
    exact hS.2.2.2.2.2.1 y ((u3 y).mpr this)
  obtain ⟨pc, cc⟩ := hS.2.1.2 y hyv
  exact osp_s (m_gj (g_at hM1 pc cc) rfl (hΦ M1 (kpS_m h hM1)))
