-- blocks in the memory: where branches part; bad blocks
set_option maxHeartbeats 1000000 in
theorem up_c (par : Nat → Nat) : ∀ n b, up par (n + 1) b = par (up par n b)
  | 0, b => rfl
  | n + 1, b => up_c par n (par b)
set_option maxHeartbeats 1000000 in
theorem up_a (par : Nat → Nat) (m : Nat) : ∀ n b, up par (n + m) b = up par m (up par n b)
  | 0, b => by rw [Nat.zero_add]; rfl
  | n + 1, b => by
    rw [show n + 1 + m = (n + m) + 1 from by omega]
    exact up_a par m n (par b)
/-- x lies before b or is b -/
def isA (par hgt : Nat → Nat) (x b : Nat) : Prop := ∃ n, up par n b = x ∧ hgt b = hgt x + n
set_option maxHeartbeats 1000000 in
theorem w_meet25 (fu MC MS : Nat) (cy : Nat → ClassId) (ad : Nat → Nat) (mi : Nat) {P : Nat → Prop} {q : Nat → Nat} {C : Nat → va_E} {M : Mm} (hM : RG P q C M) (hq : IJ P q) {nb : Nat} {par hgt tim : Nat → Nat} {bit : Nat → Int32} {bad : Nat → Bool} {rw : Nat → List Int32} {vl : Nat → Bool} {mk : Nat → Nat} {sl : Cn → Int32} (hB : bkR P q C cy nb par hgt tim bit bad rw vl mk sl) (hp : ∀ k, 0 < k → par k < k) (hh : hgt 0 = 0 ∧ ∀ k, 0 < k → k < nb → hgt k = hgt (par k) + 1) {Φ : Option Nat → Mm → Prop} {κ σ : Nat} : ∀ n x y, x < nb → y < nb → hgt x = hgt y → hgt x < n → (∀ z, z < nb → isA par hgt z x → isA par hgt z y → Φ (some (q (kB z))) M) → xw_mBl_meets_25 fu MC MS cy ad mi Φ n κ σ M (some (q (kB x))) (some (q (kB y)))
  | n + 1, x, y, hx, hy, he, hn, hΦ => by
    show xv_mBl_meets_25 fu MC MS cy ad mi Φ (xw_mBl_meets_25 fu MC MS cy ad mi Φ n) κ σ M (some (q (kB x))) (some (q (kB y)))
    unfold xv_mBl_meets_25
    obtain ⟨⟨px, -⟩, cx, -⟩ := hB.1 x hx
    obtain ⟨⟨py, -⟩, cy', -⟩ := hB.1 y hy
    show if (some (q (kB x)) : Option Nat) = some (q (kB y)) then _ else _
    by_cases g : x = y
    · subst g
      exact m_t rfl (hΦ x hx ⟨0, rfl, rfl⟩ ⟨0, rfl, rfl⟩)
    · refine m_f (fun e => g ?_) ?_
      · have := hq _ _ px py (Option.some.inj e)
        unfold kB at this
        omega
      have x0 : x ≠ 0 := fun e => by
        have := hh.2 y (by omega) hy
        rw [e, hh.1] at he
        omega
      have y0 : y ≠ 0 := fun e => by
        have := hh.2 x (by omega) hx
        rw [e, hh.1] at he
        omega
      have a1 := hh.2 x (by omega) hx
      have a2 := hh.2 y (by omega) hy
      have b1 := hp x (by omega)
      have b2 := hp y (by omega)
      have mx := g_at hM px cx
      have my := g_at hM py cy'
      refine m_grp mx (x := q (kB (par x))) (congrArg some (if_neg x0)) (m_grp my (x := q (kB (par y))) (congrArg some (if_neg y0)) (m_grp mx (x := q (kB (par x))) (congrArg some (if_neg x0)) (m_grp my (x := q (kB (par y))) (congrArg some (if_neg y0)) ?_)))
      exact w_meet25 fu MC MS cy ad mi hM hq hB hp hh n (par x) (par y) (by omega) (by omega) (by omega) (by omega) (fun z hz ⟨n1, e1, e2⟩ ⟨n2, e3, e4⟩ => hΦ z hz ⟨n1 + 1, e1, by omega⟩ ⟨n2 + 1, e3, by omega⟩)
set_option maxHeartbeats 1000000 in
theorem w_meets (fu MC MS : Nat) (cy : Nat → ClassId) (ad : Nat → Nat) (mi : Nat) (hfu : 300 ≤ fu) {P : Nat → Prop} {q : Nat → Nat} {C : Nat → va_E} {M : Mm} (hM : RG P q C M) (hq : IJ P q) {nb : Nat} {par hgt tim : Nat → Nat} {bit : Nat → Int32} {bad : Nat → Bool} {rw : Nat → List Int32} {vl : Nat → Bool} {mk : Nat → Nat} {sl : Cn → Int32} (hB : bkR P q C cy nb par hgt tim bit bad rw vl mk sl) (hnb : nb ≤ 200) (hp : ∀ k, 0 < k → par k < k) (hh : hgt 0 = 0 ∧ ∀ k, 0 < k → k < nb → hgt k = hgt (par k) + 1) (hh2 : ∀ k, k < nb → hgt k ≤ 200) {b c : Nat} (hb : b < nb) (hc : c < nb) {Φ : Option Nat → Mm → Prop} {κ σ : Nat} (hκ : κ ≤ MC ∧ σ ≤ MS) (hΦ : ∀ z, z < nb → isA par hgt z b → isA par hgt z c → Φ (some (q (kB z))) M) : xw_mBl_meets fu MC MS cy ad mi Φ κ σ M (q (kB b)) (q (kB c)) := by
  obtain ⟨⟨pb, -⟩, cb, -⟩ := hB.1 b hb
  obtain ⟨⟨pc, -⟩, cc, -⟩ := hB.1 c hc
  have mb := g_at hM pb cb
  have mc := g_at hM pc cc
  have h1 := hh2 b hb
  have h2 := hh2 c hc
  have hcI : chI nb par hgt := ⟨by omega, hh.1, fun k hk hk' => ⟨hp k hk, hh.2 k hk hk'⟩⟩
  unfold xw_mBl_meets
  refine m_gi mb rfl (m_gi mc rfl (m_bn (e' := nI (min (hgt b) (hgt c))) ?_ (m_ck mb ⟨0, 0, hκ, ?_⟩)))
  · by_cases g : hgt c < hgt b
    · rw [if_pos ((nI_ltI (a := hgt c) (b := hgt b) (by omega) (by omega)).mpr g), Nat.min_eq_right (by omega)]
    · rw [if_neg (fun z => g ((nI_ltI (a := hgt c) (b := hgt b) (by omega) (by omega)).mp z)), Nat.min_eq_left (by omega)]
  have hm : min (hgt b) (hgt c) ≤ hgt b ∧ min (hgt b) (hgt c) ≤ hgt c := ⟨Nat.min_le_left _ _, Nat.min_le_right _ _⟩
  generalize min (hgt b) (hgt c) = h at *
  have u1 := up_b hcI (hgt b - h) b hb (by omega)
  have u2 := up_b hcI (hgt c - h) c hc (by omega)
  unfold xw_mBl_ancestor
  refine w_anc fu 0 0 cy ad mi hM hB hp hh (fun k hk => Nat.le_trans (hh2 k hk) (by decide)) (by omega) b fu hb (by omega) ⟨_, rfl, m_ck mc ⟨0, 0, hκ, ?_⟩⟩
  refine w_anc fu 0 0 cy ad mi hM hB hp hh (fun k hk => Nat.le_trans (hh2 k hk) (by decide)) (by omega) c fu hc (by omega) ⟨_, rfl, ?_⟩
  refine w_meet25 fu MC MS cy ad mi hM hq hB hp hh fu _ _ u1.1 u2.1 (by omega) (by omega) (fun z hz ⟨n1, e1, e2⟩ ⟨n2, e3, e4⟩ => hΦ z hz ⟨hgt b - h + n1, ?_, by omega⟩ ⟨hgt c - h + n2, ?_, by omega⟩)
  · rw [up_a]; exact e1
  · rw [up_a]; exact e3
set_option maxHeartbeats 1000000 in
theorem w_bad (fu MC MS : Nat) (cy : Nat → ClassId) (ad : Nat → Nat) (mi : Nat) {P : Nat → Prop} {q : Nat → Nat} {C : Nat → va_E} {M : Mm} (hM : RG P q C M) {nb : Nat} {par hgt tim : Nat → Nat} {bit : Nat → Int32} {bad : Nat → Bool} {rw : Nat → List Int32} {vl : Nat → Bool} {mk : Nat → Nat} {sl : Cn → Int32} (hB : bkR P q C cy nb par hgt tim bit bad rw vl mk sl) (hnb : nb ≤ 200) {rl tk ch : Int32} {tp cap : Nat} (h103 : P 103) (hK : C 103 = kpO q rl tp tk ch) (hL : alR P q C cy 133 222 (blL nb) cap) {κ σ : Nat} (hκ : κ ≤ MC ∧ σ ≤ MS) {Φ : Int32 → Mm → Prop} (hΦ : Φ (nI (nBad bad nb)) M) : ∀ r i m, i + r = nb → r < m → xw_mK_badBlocks_4 fu MC MS cy ad mi Φ m κ σ M (q 103) (nI (nBad bad i)) (nI i)
  | r, i, m + 1, hi, hm => by
    show xv_mK_badBlocks_4 fu MC MS cy ad mi Φ (xw_mK_badBlocks_4 fu MC MS cy ad mi Φ m) κ σ M (q 103) (nI (nBad bad i)) (nI i)
    unfold xv_mK_badBlocks_4
    have m103 := g_at hM h103 hK
    obtain ⟨-, -, e, mc, h133⟩ := al_s hL
    have m133 := g_at hM hL.1 h133
    refine m_gr m103 rfl (m_ck m133 ⟨0, 0, hκ, w_Size fu 0 0 cy ad mi hM hL ?_⟩)
    rw [blL_l]
    match r, hi, hm with
    | 0, hi, hm =>
      have e : i = nb := by omega
      subst e
      exact m_t ((nI_leI (a := i) (b := i) (by omega) (by omega)).mpr (Nat.le_refl _)) hΦ
    | r + 1, hi, hm =>
      refine m_f (fun x => absurd ((nI_leI (a := nb) (b := i) (by omega) (by omega)).mp x) (by omega)) (m_gr m103 rfl (m_ck m133 ⟨0, 0, hκ, w_Get fu 0 0 cy ad mi hM hL (i := i) (by rw [blL_l]; omega) ⟨Nat.le_refl _, Nat.le_refl _⟩ ?_⟩))
      rw [blL_g (by omega)]
      obtain ⟨⟨p0, -⟩, c0, -⟩ := hB.1 i (by omega)
      have m0 := g_at hM p0 c0
      refine ⟨_, rfl, m_ck m0 (m_gi m0 rfl ?_)⟩
      have ih := w_bad fu MC MS cy ad mi hM hB hnb h103 hK hL hκ hΦ r (i + 1) m (by omega) (by omega)
      rw [show nBad bad (i + 1) = nBad bad i + if bad i = true then 1 else 0 from rfl] at ih
      unfold bB xv_mK_badBlocks_35
      by_cases g : bad i = true
      · rw [if_pos g] at ih ⊢
        refine m_f (by decide) (m_bn (e' := nI (nBad bad i + 1)) (nI_add _ 1) (m_bn (e' := nI (i + 1)) (nI_add i 1) ih))
      · rw [if_neg g] at ih ⊢
        exact m_t rfl (m_bn (e' := nI (i + 1)) (nI_add i 1) ih)
