-- blocks in the memory: the median
set_option maxHeartbeats 1000000 in
theorem isr_c (x : Nat) (L A : List Nat) : isr (x :: L) A = isr L (insr x A) := rfl
set_option maxHeartbeats 1000000 in
theorem rep_s (n : Nat) : List.replicate (n + 1) 0 = 0 :: List.replicate n 0 := rfl
set_option maxHeartbeats 1000000 in
theorem w_med9 (fu MC MS : Nat) (cy : Nat → ClassId) (ad : Nat → Nat) (mi : Nat) (hfu : 20 ≤ fu) {P : Nat → Prop} {q : Nat → Nat} {C : Nat → va_E} (hq : IJ P q) {nb : Nat} {par hgt tim : Nat → Nat} {bit : Nat → Int32} {bad : Nat → Bool} {vl : Nat → Bool} {mk : Nat → Nat} {kw : Nat} (hw : P kw) (hkw : kw < 256) (hB : ∀ b, b < nb → P (kB b) ∧ C (kB b) = blO q par hgt tim bit b (bad b) (vl b) (mk b)) (hp : ∀ k, 0 < k → par k < k) (ht : ∀ k, k < nb → tim k < 2 ^ 32) {Φ : Int64 → Mm → Prop} {κ σ : Nat} {Z : Nat} (hΦ : ∀ M' w', RG P q (va_up C kw (.inl (cy 2, 11, .inr (.inl w')))) M' → Φ (lN Z) M') : ∀ (n m b : Nat) (L A : List Nat) (M : Mm) (w : Nat → Int64), A.length + n = 11 → (∀ y, y ∈ A → y < 2 ^ 32) → n + 1 < m → RG P q (va_up C kw (.inl (cy 2, 11, .inr (.inl w)))) M → hold w (A.reverse ++ List.replicate n 0) → (∀ o, (o = none ∧ L = [] ∧ 0 < A.length) ∨ (o = some (q (kB b)) ∧ b < nb ∧ L = tls par tim n b) → Z = ((isr L A).reverse).getD ((isr L A).length / 2) 0 → xw_mBl_median_9 fu MC MS cy ad mi Φ m κ σ M (q kw) (nI A.length) o) := by
  intro n
  have FIN : ∀ (m : Nat) (A : List Nat) (M : Mm) (w : Nat → Int64) (n : Nat), A.length ≤ 11 → 0 < A.length → RG P q (va_up C kw (.inl (cy 2, 11, .inr (.inl w)))) M → hold w (A.reverse ++ List.replicate n 0) → Z = (A.reverse).getD (A.length / 2) 0 → bnd (nI A.length / 2) fun v1 => maj M (q kw) (cy 2) v1 fun v2 => Φ v2 M := fun m A M w n hl h0 hM hh hZ => by
    refine m_bn (e' := nI (A.length / 2)) (pk_div (by omega) (by decide) (by decide)) (m_aj (g_at hM hw up_e) (inb_nI (by omega) (by decide)) ?_)
    rw [nI_clamp (n := A.length / 2) (by omega)]
    have := hh (A.length / 2) (by rw [List.length_append, List.length_reverse]; omega)
    rw [List.getD_eq_getElem?_getD, List.getElem?_append_left (by rw [List.length_reverse]; omega), ← List.getD_eq_getElem?_getD, ← hZ] at this
    rw [this]
    exact hΦ M w hM
  induction n with
  | zero =>
    intro m b L A M w hl hA hm hM hh o ho hZ
    match m, hm with
    | m + 1, hm =>
      show xv_mBl_median_9 fu MC MS cy ad mi Φ (xw_mBl_median_9 fu MC MS cy ad mi Φ m) κ σ M (q kw) (nI A.length) o
      unfold xv_mBl_median_9
      rcases ho with ⟨rfl, rfl, h0⟩ | ⟨rfl, hb, rfl⟩
      · exact FIN m A M w 0 (by omega) h0 hM hh hZ
      · show if (11 : Int32) ≤ nI A.length then _ else _
        refine m_t ((nI_leI (a := 11) (b := A.length) (by omega) (by omega)).mpr (by omega)) ?_
        exact FIN m A M w 0 (by omega) (by omega) hM hh hZ
  | succ n ih =>
    intro m b L A M w hl hA hm hM hh o ho hZ
    match m, hm with
    | m + 1, hm =>
      show xv_mBl_median_9 fu MC MS cy ad mi Φ (xw_mBl_median_9 fu MC MS cy ad mi Φ m) κ σ M (q kw) (nI A.length) o
      unfold xv_mBl_median_9
      rcases ho with ⟨rfl, rfl, h0⟩ | ⟨rfl, hb, rfl⟩
      · exact FIN m A M w (n + 1) (by omega) h0 hM hh hZ
      · show if (11 : Int32) ≤ nI A.length then _ else _
        refine m_f (fun z => absurd ((nI_leI (a := 11) (b := A.length) (by omega) (by omega)).mp z) (by omega)) ?_
        obtain ⟨pb, cb⟩ := hB b hb
        have hne : kB b ≠ kw := by unfold kB; omega
        rw [rep_s] at hh
        refine w_med22 fu MC MS cy ad mi hq hw pb hne cb rfl (ht b hb) (T := List.replicate n 0) (A := A) (by rw [List.length_replicate]; omega) hA (fun M' w' hM' hh' => ?_) A [] fu 0 M w rfl (fun y hy => absurd hy List.not_mem_nil) (by omega) hM hh
        have eL : (insr (tim b) A).length = A.length + 1 := insr_len _ _
        have hA' : ∀ y, y ∈ insr (tim b) A → y < 2 ^ 32 := fun y hy => by
          rcases insr_m _ _ _ hy with e | e
          · rw [e]; exact ht b hb
          · exact hA y e
        refine m_bn (e' := nI (insr (tim b) A).length) (by rw [eL]; exact nI_add _ 1) ?_
        have cb' : va_up C kw (.inl (cy 2, 11, .inr (.inl w'))) (kB b) = blO q par hgt tim bit b (bad b) (vl b) (mk b) := (up_n hne).trans cb
        have hm' := g_at hM' pb cb'
        by_cases h0 : b = 0
        · refine m_gn hm' (congrArg some (if_pos h0)) ?_
          refine ih m 0 [] (insr (tim b) A) M' w' (by omega) hA' (by omega) hM' hh' none (Or.inl ⟨rfl, rfl, by omega⟩) ?_
          rw [hZ, show tls par tim (n + 1) b = tim b :: (if b = 0 then [] else tls par tim n (par b)) from rfl, if_pos h0, isr_c]
        · have hpb := hp b (by omega)
          refine m_grp hm' (x := q (kB (par b))) (congrArg some (if_neg h0)) ?_
          refine ih m (par b) (tls par tim n (par b)) (insr (tim b) A) M' w' (by omega) hA' (by omega) hM' hh' _ (Or.inr ⟨rfl, by omega, rfl⟩) ?_
          rw [hZ, show tls par tim (n + 1) b = tim b :: (if b = 0 then [] else tls par tim n (par b)) from rfl, if_neg h0, isr_c]
set_option maxHeartbeats 1000000 in
theorem w_med (fu MC MS : Nat) (cy : Nat → ClassId) (ad : Nat → Nat) (mi : Nat) (hfu : 20 ≤ fu) {P : Nat → Prop} {q : Nat → Nat} {C : Nat → va_E} {M : Mm} (hM : RG P q C M) (hq : IJ P q) {nb : Nat} {par hgt tim : Nat → Nat} {bit : Nat → Int32} {bad : Nat → Bool} {rw : Nat → List Int32} {vl : Nat → Bool} {mk : Nat → Nat} {sl : Cn → Int32} (h224 : ¬ P 224) (hB : bkR P q C cy nb par hgt tim bit bad rw vl mk sl) (hp : ∀ k, 0 < k → par k < k) (ht : ∀ k, k < nb → tim k < 2 ^ 32) {b : Nat} (hb : b < nb) {Φ : Int64 → Mm → Prop} {κ σ : Nat} (hκ : κ + 1 ≤ MC ∧ σ + 11 ≤ MS) (hΦ : ∀ M', RG P q C M' → Φ (lN (med (tls par tim 11 b))) M') : xw_mBl_median fu MC MS cy ad mi Φ κ σ M (q (kB b)) := by
  unfold xw_mBl_median
  refine ⟨⟨by decide, by decide⟩, hκ, g_nw hM hq h224 (fun a M2 hM2 hq2 => ?_)⟩
  have hne : ∀ j, P j → j ≠ 224 := fun j hj e => h224 (e ▸ hj)
  have qe : ∀ j, P j → va_up q 224 a j = q j := fun j hj => up_n (hne j hj)
  have pk := fun b (h : b < nb) => (hB.1 b h).1.1
  have key := w_med9 fu MC MS cy ad mi hfu (P := fun j => P j ∨ j = 224) (q := va_up q 224 a) (C := C) hq2 (nb := nb) (par := par) (hgt := hgt) (tim := tim) (bit := bit) (bad := bad) (vl := vl) (mk := mk) (kw := 224) (Or.inr rfl) (by decide) (fun b h => by
    obtain ⟨⟨p0, p1, p2, p3, p4⟩, c0, -⟩ := hB.1 b h
    refine ⟨Or.inl p0, c0.trans ?_⟩
    unfold blO
    have e1 : (if b = 0 then Value.null else .ref (va_up q 224 a (kB (par b)))) = if b = 0 then Value.null else .ref (q (kB (par b))) := by
      by_cases g : b = 0
      · rw [if_pos g, if_pos g]
      · have := hp b (by omega)
        rw [if_neg g, if_neg g, qe _ (pk (par b) (by omega))]
    have e2 : (if b = 0 then Value.null else .ref (va_up q 224 a (kB b + 4))) = if b = 0 then Value.null else .ref (q (kB b + 4)) := by
      by_cases g : b = 0
      · rw [if_pos g, if_pos g]
      · rw [if_neg g, if_neg g, qe _ (p4 (by omega))]
    rw [e1, e2, qe _ p1, qe _ p2, qe _ p3]) hp ht (Φ := Φ) (κ := κ + 1) (σ := σ + (Int32.toNatClampNeg 11)) (Z := med (tls par tim 11 b)) (fun M' w' hM' => hΦ M' fun j hj => by
      have := hM' j (Or.inl hj)
      rw [qe j hj, up_n (hne j hj)] at this
      exact this) 11 fu b (tls par tim 11 b) [] M2 (fun _ => 0) rfl (fun y hy => absurd hy List.not_mem_nil) (by omega) hM2 (fun i hi => ?_) (some (q (kB b))) (Or.inr ⟨congrArg some (qe _ (pk b hb)).symm, hb, rfl⟩) ?_
  · rw [up_e] at key
    exact key
  · show (0 : Int64) = lN ((List.replicate 11 0).getD i 0)
    rw [List.getD_eq_getElem?_getD, List.getElem?_replicate]
    by_cases g : i < 11
    · rw [if_pos g]; rfl
    · rw [if_neg g]; rfl
  · unfold med
    rw [isr_len]
    rfl
