-- where branches part, for certain; bounds
def isM0 (par : Nat → Nat) (z x y : Nat) : Prop := ∃ n, up par n x = z ∧ up par n y = z ∧ ∀ m, m < n → up par m x ≠ up par m y
set_option maxHeartbeats 400000 in
theorem isM0_u {par : Nat → Nat} {z z' x y : Nat} (h : isM0 par z x y) (h' : isM0 par z' x y) : z = z' := by
  obtain ⟨n, a, b, d⟩ := h
  obtain ⟨n', a', b', d'⟩ := h'
  rcases Nat.lt_trichotomy n n' with e | e | e
  · exact absurd (a.trans b.symm) (d' n e)
  · subst e
    exact a.symm.trans a'
  · exact absurd (a'.trans b'.symm) (d n' e)
set_option maxHeartbeats 400000 in
theorem isM0_x {par : Nat → Nat} {x y N : Nat} (h : up par N x = up par N y) : ∃ z, isM0 par z x y := by
  have key : ∀ n, n ≤ N → (∃ z, isM0 par z x y) ∨ ∀ m, m < n → up par m x ≠ up par m y := by
    intro n
    induction n with
    | zero => exact fun _ => Or.inr fun m hm => absurd hm (Nat.not_lt_zero _)
    | succ n ih =>
      intro hn
      rcases ih (by omega) with e | e
      · exact Or.inl e
      · by_cases g : up par n x = up par n y
        · exact Or.inl ⟨_, n, rfl, g.symm, e⟩
        · refine Or.inr fun m hm => ?_
          by_cases z : m = n
          · rw [z]; exact g
          · exact e m (by omega)
  rcases key N (Nat.le_refl _) with e | e
  · exact e
  · exact ⟨_, N, rfl, h.symm, e⟩
def isM (par hgt : Nat → Nat) (z b c : Nat) : Prop := isM0 par z (up par (hgt b - min (hgt b) (hgt c)) b) (up par (hgt c - min (hgt b) (hgt c)) c)
set_option maxHeartbeats 1000000 in
theorem w_mtb25 (fu MC MS : Nat) (cy : Nat → ClassId) (ad : Nat → Nat) (mi : Nat) {P : Nat → Prop} {q : Nat → Nat} {C : Nat → va_E} {M : Mm} (hM : RG P q C M) (hq : IJ P q) {nb : Nat} {par hgt tim : Nat → Nat} {bit : Nat → Int32} {bad : Nat → Bool} {rw : Nat → List Int32} {vl : Nat → Bool} {mk : Nat → Nat} {sl : Cn → Int32} (hB : bkR P q C cy nb par hgt tim bit bad rw vl mk sl) (hp : ∀ k, 0 < k → par k < k) (hh : hgt 0 = 0 ∧ ∀ k, 0 < k → k < nb → hgt k = hgt (par k) + 1) {Φ : Option Nat → Mm → Prop} {κ σ : Nat} : ∀ n x y, x < nb → y < nb → hgt x = hgt y → hgt x < n → (∀ z, z < nb → isA par hgt z x → isA par hgt z y → isM0 par z x y → Φ (some (q (kB z))) M) → xw_mBl_meets_25 fu MC MS cy ad mi Φ n κ σ M (some (q (kB x))) (some (q (kB y)))
  | n + 1, x, y, hx, hy, he, hn, hΦ => by
    show xv_mBl_meets_25 fu MC MS cy ad mi Φ (xw_mBl_meets_25 fu MC MS cy ad mi Φ n) κ σ M (some (q (kB x))) (some (q (kB y)))
    unfold xv_mBl_meets_25
    obtain ⟨⟨px, -⟩, cx, -⟩ := hB.1 x hx
    obtain ⟨⟨py, -⟩, cy', -⟩ := hB.1 y hy
    show if (some (q (kB x)) : Option Nat) = some (q (kB y)) then _ else _
    by_cases g : x = y
    · subst g
      exact m_t rfl (hΦ x hx ⟨0, rfl, rfl⟩ ⟨0, rfl, rfl⟩ ⟨0, rfl, rfl, fun m hm => absurd hm (Nat.not_lt_zero _)⟩)
    · refine m_f (fun e => g ?_) ?_
      · have := hq _ _ px py (Option.some.inj e)
        unfold kB at this
        omega
      have x0 : x ≠ 0 := fun e => by
        have := hh.2 y (by omega) hy
        rw [e, hh.1] at he
        omega
      have y0 : y ≠ 0 := fun e => by
        have := hh.2 x (by omega) hx
        rw [e, hh.1] at he
        omega
      have a1 := hh.2 x (by omega) hx
      have a2 := hh.2 y (by omega) hy
      have b1 := hp x (by omega)
      have b2 := hp y (by omega)
      have mx := g_at hM px cx
      have my := g_at hM py cy'
      refine m_grp mx (x := q (kB (par x))) (congrArg some (if_neg x0)) (m_grp my (x := q (kB (par y))) (congrArg some (if_neg y0)) (m_grp mx (x := q (kB (par x))) (congrArg some (if_neg x0)) (m_grp my (x := q (kB (par y))) (congrArg some (if_neg y0)) ?_)))
      refine w_mtb25 fu MC MS cy ad mi hM hq hB hp hh n (par x) (par y) (by omega) (by omega) (by omega) (by omega) (fun z hz ⟨n1, e1, e2⟩ ⟨n2, e3, e4⟩ ⟨n3, f1, f2, f3⟩ => hΦ z hz ⟨n1 + 1, e1, by omega⟩ ⟨n2 + 1, e3, by omega⟩ ⟨n3 + 1, f1, f2, fun m hm => ?_⟩)
      match m, hm with
      | 0, _ => exact g
      | m + 1, hm => exact f3 m (by omega)
set_option maxHeartbeats 1000000 in
theorem w_mtb (fu MC MS : Nat) (cy : Nat → ClassId) (ad : Nat → Nat) (mi : Nat) (hfu : 300 ≤ fu) {P : Nat → Prop} {q : Nat → Nat} {C : Nat → va_E} {M : Mm} (hM : RG P q C M) (hq : IJ P q) {nb : Nat} {par hgt tim : Nat → Nat} {bit : Nat → Int32} {bad : Nat → Bool} {rw : Nat → List Int32} {vl : Nat → Bool} {mk : Nat → Nat} {sl : Cn → Int32} (hB : bkR P q C cy nb par hgt tim bit bad rw vl mk sl) (hnb : nb ≤ 200) (hp : ∀ k, 0 < k → par k < k) (hh : hgt 0 = 0 ∧ ∀ k, 0 < k → k < nb → hgt k = hgt (par k) + 1) (hh2 : ∀ k, k < nb → hgt k ≤ 200) {b c : Nat} (hb : b < nb) (hc : c < nb) {Φ : Option Nat → Mm → Prop} {κ σ : Nat} (hκ : κ ≤ MC ∧ σ ≤ MS) (hΦ : ∀ z, z < nb → isA par hgt z b → isA par hgt z c → isM par hgt z b c → Φ (some (q (kB z))) M) : xw_mBl_meets fu MC MS cy ad mi Φ κ σ M (q (kB b)) (q (kB c)) := by
  obtain ⟨⟨pb, -⟩, cb, -⟩ := hB.1 b hb
  obtain ⟨⟨pc, -⟩, cc, -⟩ := hB.1 c hc
  have mb := g_at hM pb cb
  have mc := g_at hM pc cc
  have h1 := hh2 b hb
  have h2 := hh2 c hc
  have hcI : chI nb par hgt := ⟨by omega, hh.1, fun k hk hk' => ⟨hp k hk, hh.2 k hk hk'⟩⟩
  unfold xw_mBl_meets
  unfold isM at hΦ
  refine m_gi mb rfl (m_gi mc rfl (m_bn (e' := nI (min (hgt b) (hgt c))) ?_ (m_ck mb ⟨0, 0, hκ, ?_⟩)))
  · by_cases g : hgt c < hgt b
    · rw [if_pos ((nI_ltI (a := hgt c) (b := hgt b) (by omega) (by omega)).mpr g), Nat.min_eq_right (by omega)]
    · rw [if_neg (fun z => g ((nI_ltI (a := hgt c) (b := hgt b) (by omega) (by omega)).mp z)), Nat.min_eq_left (by omega)]
  have hm : min (hgt b) (hgt c) ≤ hgt b ∧ min (hgt b) (hgt c) ≤ hgt c := ⟨Nat.min_le_left _ _, Nat.min_le_right _ _⟩
  generalize min (hgt b) (hgt c) = h at *
  have u1 := up_b hcI (hgt b - h) b hb (by omega)
  have u2 := up_b hcI (hgt c - h) c hc (by omega)
  unfold xw_mBl_ancestor
  refine w_anc fu 0 0 cy ad mi hM hB hp hh (fun k hk => Nat.le_trans (hh2 k hk) (by decide)) (by omega) b fu hb (by omega) ⟨_, rfl, m_ck mc ⟨0, 0, hκ, ?_⟩⟩
  refine w_anc fu 0 0 cy ad mi hM hB hp hh (fun k hk => Nat.le_trans (hh2 k hk) (by decide)) (by omega) c fu hc (by omega) ⟨_, rfl, ?_⟩
  refine w_mtb25 fu MC MS cy ad mi hM hq hB hp hh fu _ _ u1.1 u2.1 (by omega) (by omega) (fun z hz ⟨n1, e1, e2⟩ ⟨n2, e3, e4⟩ hm => hΦ z hz ⟨hgt b - h + n1, ?_, by omega⟩ ⟨hgt c - h + n2, ?_, by omega⟩ hm)
  · rw [up_a]; exact e1
  · rw [up_a]; exact e3
set_option maxHeartbeats 400000 in
theorem hgt_0 {par hgt : Nat → Nat} {nb : Nat} (hh : hgt 0 = 0 ∧ ∀ k, 0 < k → k < nb → hgt k = hgt (par k) + 1) {x : Nat} (hx : x < nb) (h : hgt x = 0) : x = 0 := by
  rcases Nat.eq_zero_or_pos x with e | e
  · exact e
  · have := hh.2 x e hx
    omega
set_option maxHeartbeats 400000 in
theorem isM_x {par hgt : Nat → Nat} {nb : Nat} (hp : ∀ k, 0 < k → par k < k) (hh : hgt 0 = 0 ∧ ∀ k, 0 < k → k < nb → hgt k = hgt (par k) + 1) {b c : Nat} (hb : b < nb) (hc : c < nb) : ∃ z, isM par hgt z b c := by
  have hcI : chI nb par hgt := ⟨by omega, hh.1, fun k hk hk' => ⟨hp k hk, hh.2 k hk hk'⟩⟩
  unfold isM
  have hm : min (hgt b) (hgt c) ≤ hgt b ∧ min (hgt b) (hgt c) ≤ hgt c := ⟨Nat.min_le_left _ _, Nat.min_le_right _ _⟩
  generalize min (hgt b) (hgt c) = h at *
  have u1 := up_b hcI (hgt b - h) b hb (by omega)
  have u2 := up_b hcI (hgt c - h) c hc (by omega)
  have v1 := up_b hcI h _ u1.1 (by omega)
  have v2 := up_b hcI h _ u2.1 (by omega)
  refine isM0_x (N := h) ?_
  rw [hgt_0 hh v1.1 (by omega), hgt_0 hh v2.1 (by omega)]
set_option maxHeartbeats 400000 in
theorem oK_a {rw : Nat → List Int32} {hgt tim : Nat → Nat} {nb : Nat} (hA : bkA rw hgt tim nb) : oK rw nb := fun x hx => by
  have hb0 : 0 < x.1 := by
    rcases Nat.eq_zero_or_pos x.1 with z | z
    · have := hx.1.2
      rw [z, TLb_0 hA.1] at this
      exact absurd this (Nat.not_lt_zero _)
    · exact z
  have hbk := hA.2 x.1 hb0 hx.1.1
  have hnn := bk_n hbk
  have h3000 := hbk.2.1
  have ho : nOut ((TLb rw x.1).take (x.2.1 + 1)) = nOut ((TLb rw x.1).take x.2.1) + (txO rw x.1 x.2.1).2.2.2.1.length := nOut_tk (TLb rw x.1) x.2.1 hx.1.2
  have hm := nOut_m2 (TLb rw x.1) (t := x.2.1 + 1) (t' := (TLb rw x.1).length) hx.1.2
  rw [List.take_length] at hm
  have := hx.2
  unfold ckO
  omega
set_option maxHeartbeats 400000 in
theorem wy_sum {par : Nat → Nat} (hp : ∀ k, 0 < k → par k < k) (f : Nat → Nat) : ∀ x, sumL f (wy par x) ≤ sumB f (x + 1) := by
  intro x
  induction x using Nat.strongRecOn with
  | _ x ih =>
    rcases Nat.eq_zero_or_pos x with e | e
    · subst e
      rw [wy_0]
      exact Nat.zero_le _
    · have h1 := hp x e
      have h2 := ih (par x) h1
      rw [wy_s hp e, sumL_ap, sumL_1]
      show _ ≤ sumB f x + f x
      rcases Nat.lt_or_ge (par x + 1) x with z | z
      · have := sumB_le (f := f) (b := par x + 1) (n := x) z
        omega
      · rw [show par x + 1 = x from by omega] at h2
        omega
set_option maxHeartbeats 400000 in
theorem sumB_m {f g : Nat → Nat} (k l : Nat) : ∀ n, (∀ b, b < n → k * f b ≤ l * g b) → k * sumB f n ≤ l * sumB g n
  | 0, _ => by
    show k * 0 ≤ l * 0
    omega
  | n + 1, h => by
    have ih := sumB_m k l n (fun b hb => h b (by omega))
    have := h n (Nat.lt_succ_self _)
    show k * (sumB f n + f n) ≤ l * (sumB g n + g n)
    rw [Nat.mul_add, Nat.mul_add]
    omega
set_option maxHeartbeats 400000 in
theorem hNB_a {rw : Nat → List Int32} {par hgt tim : Nat → Nat} {nb : Nat} (hA : bkA rw hgt tim nb) (hp : ∀ k, 0 < k → par k < k) (hs : sBr rw nb ≤ 17000) : ∀ x, x < nb → sumL (hBn rw) (wy par x) ≤ 4000 := fun x hx => by
  have h1 := wy_sum hp (hBn rw) x
  have h2 : sumB (hBn rw) (x + 1) ≤ sumB (hBn rw) nb := by
    rcases Nat.lt_or_ge (x + 1) nb with z | z
    · have := sumB_le (f := hBn rw) z
      omega
    · rw [show x + 1 = nb from by omega]
      exact Nat.le_refl _
  have h3 := sumB_m (f := hBn rw) (g := fun k => (rw k).length) 9 2 nb (fun b hb => by
    rcases Nat.eq_zero_or_pos b with e | e
    · subst e
      unfold hBn
      rw [TLb_0 hA.1]
      exact Nat.zero_le _
    · have := bk_n (hA.2 b e hb)
      unfold hBn
      show 9 * (nIn (TLb rw b) + 2 * nOut (TLb rw b)) ≤ 2 * (rw b).length
      omega)
  have h4 : sumB (fun k => (rw k).length) nb = sBr rw nb := rfl
  rw [h4] at h3
  omega
set_option maxHeartbeats 400000 in
theorem rfR_x (rw : Nat → List Int32) (nb : Nat) (par hgt tim : Nat → Nat) (bit : Nat → Int32) (bad : Nat → Prop) (r : List Int32) : ∃ c p, rfR rw nb par hgt tim bit bad r c p := by
  by_cases h1 : pBl (lf r) r.length = none
  · exact ⟨1, 0, iPr_t h1 rfl⟩
  by_cases h2 : ∃ k, k < nb ∧ bl (bIf rw k) 0 32 = bl (dbl (lf r) 80) 0 32
  · exact ⟨2, 0, iPr_f h1 (iPr_t h2 rfl)⟩
  by_cases h3 : ∀ k, k < nb → bl (bIf rw k) 0 32 ≠ bl (lf r) 4 32
  · exact ⟨3, 0, iPr_f h1 (iPr_f h2 (iPr_t h3 rfl))⟩
  obtain ⟨p, hp⟩ : ∃ p, p < nb ∧ bl (bIf rw p) 0 32 = bl (lf r) 4 32 := Classical.byContradiction fun z => h3 fun k hk e => z ⟨k, hk, e⟩
  have key : ∃ c, rf2 par hgt tim bit bad r p c := by
    unfold rf2
    by_cases a1 : bad p
    · exact ⟨4, iPr_t a1 rfl⟩
    by_cases a2 : ¬ wnQ par hgt tim bit p (rBi r)
    · exact ⟨5, iPr_f a1 (iPr_t a2 rfl)⟩
    by_cases a3 : tgB (rBi r) < leP (dbl (lf r) 80) 0 32
    · exact ⟨6, iPr_f a1 (iPr_f a2 (iPr_t a3 rfl))⟩
    by_cases a4 : rTm r ≤ med (tls par tim 11 p)
    · exact ⟨7, iPr_f a1 (iPr_f a2 (iPr_f a3 (iPr_t a4 rfl)))⟩
    by_cases a5 : ¬ rtQ (bl (lf r) 36 32) 10 (rTL r).length (rId r)
    · exact ⟨8, iPr_f a1 (iPr_f a2 (iPr_f a3 (iPr_f a4 (iPr_t a5 rfl))))⟩
    by_cases a6 : ¬ sndS ((rTL r).map (txV (lf r))) (hgt p + 1) (rTm r)
    · exact ⟨9, iPr_f a1 (iPr_f a2 (iPr_f a3 (iPr_f a4 (iPr_f a5 (iPr_t a6 rfl)))))⟩
    · exact ⟨0, iPr_f a1 (iPr_f a2 (iPr_f a3 (iPr_f a4 (iPr_f a5 (iPr_f a6 rfl)))))⟩
  obtain ⟨c, hc⟩ := key
  exact ⟨c, p, iPr_f h1 (iPr_f h2 (iPr_f h3 ⟨hp.1, hp.2, hc⟩))⟩
set_option maxHeartbeats 400000 in
theorem rfR_9 {rw : Nat → List Int32} {nb : Nat} {par hgt tim : Nat → Nat} {bit : Nat → Int32} {bad : Nat → Prop} {r : List Int32} {c p : Nat} (h : rfR rw nb par hgt tim bit bad r c p) : c < 100 := by
  rcases h with ⟨-, h⟩ | ⟨-, h⟩
  · omega
  rcases h with ⟨-, h⟩ | ⟨-, h⟩
  · omega
  rcases h with ⟨-, h⟩ | ⟨-, -, -, h⟩
  · omega
  rcases h with ⟨-, h⟩ | ⟨-, h⟩
  · omega
  rcases h with ⟨-, h⟩ | ⟨-, h⟩
  · omega
  rcases h with ⟨-, h⟩ | ⟨-, h⟩
  · omega
  rcases h with ⟨-, h⟩ | ⟨-, h⟩
  · omega
  rcases h with ⟨-, h⟩ | ⟨-, h⟩
  · omega
  rcases h with ⟨-, h⟩ | ⟨-, h⟩
  · omega
  · omega
