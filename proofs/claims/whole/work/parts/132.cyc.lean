-- whole multiples
set_option maxHeartbeats 400000 in
theorem g_b {F : Type} [Lean.Grind.Field F] [DecidableEq F] {c : Int → F} (hc : cH pP c) {p q : Option (F × F)} (hp : onC (c 7) p) (hq : onC (c 7) q) : ea (ea p q) (en q) = p := ea_b (k_2 hc) (k_3 hc) (k_7 hc) hp hq
set_option maxHeartbeats 400000 in
theorem g_n {F : Type} [Lean.Grind.Field F] [DecidableEq F] {c : Int → F} (hc : cH pP c) {p q : Option (F × F)} (hp : onC (c 7) p) (hq : onC (c 7) q) : en (ea p q) = ea (en p) (en q) := en_ea (k_2 hc) hp hq
set_option maxHeartbeats 400000 in
theorem g_0 {F : Type} [Lean.Grind.Field F] [DecidableEq F] {c : Int → F} (hc : cH pP c) {p q : Option (F × F)} (hp : onC (c 7) p) (hq : onC (c 7) q) (h : ea p (en q) = none) : p = q := by
  have := g_b hc hp (en_on hq)
  rw [h, en_en] at this
  exact this.symm
def zm {F : Type} [Lean.Grind.Field F] [DecidableEq F] (p : Option (F × F)) (z : Int) : Option (F × F) := if 0 ≤ z then sm p z.toNat else en (sm p (-z).toNat)
set_option maxHeartbeats 400000 in
theorem zm_on {F : Type} [Lean.Grind.Field F] [DecidableEq F] {c : Int → F} (hc : cH pP c) {p : Option (F × F)} (hp : onC (c 7) p) (z : Int) : onC (c 7) (zm p z) := by
  unfold zm
  by_cases h : 0 ≤ z
  · rw [if_pos h]; exact sm_on hc hp _
  · rw [if_neg h]; exact en_on (sm_on hc hp _)
set_option maxHeartbeats 400000 in
theorem zm_sub {F : Type} [Lean.Grind.Field F] [DecidableEq F] {c : Int → F} (hc : cH pP c) {p : Option (F × F)} (hp : onC (c 7) p) (m n : Nat) : zm p ((m : Int) - (n : Int)) = ea (sm p m) (en (sm p n)) := by
  unfold zm
  by_cases h : n ≤ m
  · obtain ⟨d, rfl⟩ : ∃ d, m = d + n := ⟨m - n, by omega⟩
    rw [if_pos (by omega), show (((d + n : Nat) : Int) - (n : Int)).toNat = d from by omega, sm_add hc hp, g_b hc (sm_on hc hp d) (sm_on hc hp n)]
  · obtain ⟨d, rfl⟩ : ∃ d, n = m + d := ⟨n - m, by omega⟩
    rw [if_neg (by omega), show (-((m : Int) - ((m + d : Nat) : Int))).toNat = d from by omega, sm_add hc hp, g_n hc (sm_on hc hp m) (sm_on hc hp d), ← g_as hc (sm_on hc hp m) (en_on (sm_on hc hp m)) (en_on (sm_on hc hp d)), ea_en]
    rfl
set_option maxHeartbeats 400000 in
theorem zm_add {F : Type} [Lean.Grind.Field F] [DecidableEq F] {c : Int → F} (hc : cH pP c) {p : Option (F × F)} (hp : onC (c 7) p) (a b : Int) : zm p (a + b) = ea (zm p a) (zm p b) := by
  obtain ⟨m, n, rfl⟩ : ∃ m n : Nat, a = (m : Int) - (n : Int) := ⟨a.toNat, (-a).toNat, by omega⟩
  obtain ⟨m', n', rfl⟩ : ∃ m n : Nat, b = (m : Int) - (n : Int) := ⟨b.toNat, (-b).toNat, by omega⟩
  rw [show (m : Int) - n + (m' - n') = ((m + m' : Nat) : Int) - ((n + n' : Nat) : Int) from by omega, zm_sub hc hp, zm_sub hc hp, zm_sub hc hp, sm_add hc hp, sm_add hc hp, g_n hc (sm_on hc hp n) (sm_on hc hp n')]
  exact g_med hc (sm_on hc hp m) (sm_on hc hp m') (en_on (sm_on hc hp n)) (en_on (sm_on hc hp n'))
set_option maxHeartbeats 400000 in
theorem zm_nat {F : Type} [Lean.Grind.Field F] [DecidableEq F] (p : Option (F × F)) (n : Nat) : zm p (n : Int) = sm p n := by
  unfold zm
  rw [if_pos (by omega)]
  rfl
set_option maxHeartbeats 400000 in
theorem zm_0 {F : Type} [Lean.Grind.Field F] [DecidableEq F] (p : Option (F × F)) : zm p 0 = none := rfl
set_option maxHeartbeats 400000 in
theorem zm_1 {F : Type} [Lean.Grind.Field F] [DecidableEq F] (p : Option (F × F)) : zm p 1 = p := by
  rw [show (1 : Int) = ((1 : Nat) : Int) from rfl, zm_nat, sm_1]
set_option maxHeartbeats 400000 in
theorem zm_neg {F : Type} [Lean.Grind.Field F] [DecidableEq F] {c : Int → F} (hc : cH pP c) {p : Option (F × F)} (hp : onC (c 7) p) (a : Int) : zm p (-a) = en (zm p a) := by
  refine (g_0 hc (zm_on hc hp _) (en_on (zm_on hc hp _)) ?_)
  rw [en_en, ← zm_add hc hp, show -a + a = 0 from by omega, zm_0]
set_option maxHeartbeats 400000 in
theorem zm_none {F : Type} [Lean.Grind.Field F] [DecidableEq F] : ∀ n, sm (none : Option (F × F)) n = none
  | 0 => rfl
  | n + 1 => by
    show ea (sm none n) none = none
    rw [zm_none n]
    rfl
set_option maxHeartbeats 400000 in
theorem sm_mul {F : Type} [Lean.Grind.Field F] [DecidableEq F] {c : Int → F} (hc : cH pP c) {p : Option (F × F)} (hp : onC (c 7) p) (a : Nat) : ∀ b, sm p (a * b) = sm (sm p a) b
  | 0 => rfl
  | b + 1 => by
    rw [Nat.mul_succ, sm_add hc hp, sm_mul hc hp a b]
    rfl
set_option maxHeartbeats 400000 in
theorem zm_mul {F : Type} [Lean.Grind.Field F] [DecidableEq F] {c : Int → F} (hc : cH pP c) {p : Option (F × F)} (hp : onC (c 7) p) (a : Int) (b : Nat) : zm p (a * (b : Int)) = sm (zm p a) b := by
  induction b with
  | zero => rw [show a * ((0 : Nat) : Int) = 0 from by simp, zm_0]; rfl
  | succ b ih => rw [show a * ((b + 1 : Nat) : Int) = a * (b : Int) + a from by rw [Int.natCast_add, Int.mul_add]; simp, zm_add hc hp, ih]; rfl
set_option maxHeartbeats 400000 in
theorem gG_ne {F : Type} (c : Int → F) : gG c ≠ none := fun h => absurd (show some _ = none from h) (by simp)
set_option maxHeartbeats 400000 in
/-- the order of G is n -/
theorem zG_0 {F : Type} [Lean.Grind.Field F] [DecidableEq F] {c : Int → F} (hc : cH pP c) {z : Int} (h : zm (gG c) z = none) : (nN : Int) ∣ z := by
  have hg := gG_on hc
  have hk : ∀ k : Nat, sm (gG c) k = none → nN ∣ k := by
    intro k hk
    apply Classical.byContradiction
    intro hd
    have h0 : 0 < k := Nat.pos_of_ne_zero (fun q => hd (by rw [q]; exact Nat.dvd_zero _))
    obtain ⟨x, y, e⟩ := bz nN k h0 (Nat.lt_trans (by decide) nN_pr.1) (Nat.Coprime.symm (pr_cp nN_pr hd))
    have h1 : sm (gG c) (x * k) = none := by rw [Nat.mul_comm, sm_mul hc hg, hk, zm_none]
    rw [e, sm_add hc hg, Nat.mul_comm y nN, sm_mul hc hg, gN hc, zm_none, ea_0n, sm_1] at h1
    exact gG_ne c h1
  unfold zm at h
  by_cases g : 0 ≤ z
  · rw [if_pos g] at h
    have := hk _ h
    obtain ⟨q, hq⟩ := this
    refine ⟨(q : Int), ?_⟩
    rw [← Int.natCast_mul, ← hq]
    omega
  · rw [if_neg g] at h
    have h' : sm (gG c) (-z).toNat = none := by
      have := congrArg en h
      rw [en_en] at this
      exact this
    obtain ⟨q, hq⟩ := hk _ h'
    refine ⟨-(q : Int), ?_⟩
    rw [Int.mul_neg, ← Int.natCast_mul, ← hq]
    omega
set_option maxHeartbeats 400000 in
theorem zG_n {F : Type} [Lean.Grind.Field F] [DecidableEq F] {c : Int → F} (hc : cH pP c) (z k : Int) : zm (gG c) (z + nN * k) = zm (gG c) z := by
  have hg := gG_on hc
  have h0 : zm (gG c) ((nN : Int) * k) = none := by
    have key : ∀ m : Nat, zm (gG c) ((nN : Int) * (m : Int)) = none := fun m => by
      rw [zm_mul hc hg, zm_nat, gN hc, zm_none]
    by_cases g : 0 ≤ k
    · have := key k.toNat
      rwa [show ((k.toNat : Nat) : Int) = k from by omega] at this
    · have := key (-k).toNat
      rw [show (((-k).toNat : Nat) : Int) = -k from by omega, Int.mul_neg, zm_neg hc hg] at this
      have := congrArg en this
      rw [en_en] at this
      exact this
  rw [zm_add hc hg, h0, ea_0n]
set_option maxHeartbeats 400000 in
/-- no point of order 2 -/
theorem g_2 {F : Type} [Lean.Grind.Field F] [DecidableEq F] {c : Int → F} (hc : cH pP c) {p : Option (F × F)} (hp : onC (c 7) p) (h : ea p p = none) : p = none := by
  cases p with
  | none => rfl
  | some p =>
    obtain ⟨x, y⟩ := p
    exfalso
    have hy := noy hc hp
    obtain ⟨l, x3, y3, e, -⟩ := ea_R (k_2 hc) (b := c 7) (x1 := x) (y1 := y) (x2 := x) (y2 := y) hp hp (fun g => hy (by have g2 : y = -y := g.2; have := k_2 hc; grind))
    rw [e] at h
    exact absurd h (by simp)
noncomputable def nuF {F : Type} [Lean.Grind.Field F] {c : Int → F} (hc : cH pP c) (x : F) : Nat := Classical.choose (hc.2.2.2.2 x)
set_option maxHeartbeats 400000 in
theorem nuF_1 {F : Type} [Lean.Grind.Field F] {c : Int → F} (hc : cH pP c) (x : F) : nuF hc x < pP := (Classical.choose_spec (hc.2.2.2.2 x)).1
set_option maxHeartbeats 400000 in
theorem nuF_2 {F : Type} [Lean.Grind.Field F] {c : Int → F} (hc : cH pP c) (x : F) : c ((nuF hc x : Nat) : Int) = x := (Classical.choose_spec (hc.2.2.2.2 x)).2
noncomputable def phF {F : Type} [Lean.Grind.Field F] {c : Int → F} (hc : cH pP c) : Option (F × F) → Nat
  | none => 0
  | some p => 1 + 2 * nuF hc p.1 + nuF hc p.2 % 2
set_option maxHeartbeats 400000 in
theorem phF_lt {F : Type} [Lean.Grind.Field F] {c : Int → F} (hc : cH pP c) (p : Option (F × F)) : phF hc p < 2 * pP + 1 := by
  cases p with
  | none => show 0 < _; omega
  | some p =>
    show 1 + 2 * nuF hc p.1 + nuF hc p.2 % 2 < _
    have := nuF_1 hc p.1
    omega
set_option maxHeartbeats 400000 in
theorem pP_odd : pP % 2 = 1 := by decide +kernel
set_option maxHeartbeats 400000 in
theorem phF_inj {F : Type} [Lean.Grind.Field F] {c : Int → F} (hc : cH pP c) {p q : Option (F × F)} (hp : onC (c 7) p) (hq : onC (c 7) q) (h : phF hc p = phF hc q) : p = q := by
  cases p with
  | none =>
    cases q with
    | none => rfl
    | some q =>
      have : 0 = 1 + 2 * nuF hc q.1 + nuF hc q.2 % 2 := h
      omega
  | some p =>
    cases q with
    | none =>
      have : 1 + 2 * nuF hc p.1 + nuF hc p.2 % 2 = 0 := h
      omega
    | some q =>
      obtain ⟨x, y⟩ := p
      obtain ⟨x', y'⟩ := q
      replace h : 1 + 2 * nuF hc x + nuF hc y % 2 = 1 + 2 * nuF hc x' + nuF hc y' % 2 := h
      have h1 : nuF hc x = nuF hc x' := by omega
      have h2 : nuF hc y % 2 = nuF hc y' % 2 := by omega
      have ex : x = x' := by rw [← nuF_2 hc x, h1, nuF_2 hc x']
      have hp' : y * y = x * x * x + c 7 := hp
      have hq' : y' * y' = x' * x' * x' + c 7 := hq
      have e : y * y = y' * y' := by rw [hp', hq', ex]
      have e2 : nuF hc y * nuF hc y % pP = nuF hc y' * nuF hc y' % pP := by
        refine c_inj hc (Nat.mod_lt _ pP_0) (Nat.mod_lt _ pP_0) ?_
        rw [c_tm hc, c_tm hc, nuF_2 hc y, nuF_2 hc y', e]
      have e3 := rt_u pP_pr pP_odd (nuF_1 hc y) (nuF_1 hc y') e2 h2
      have ey : y = y' := by rw [← nuF_2 hc y, e3, nuF_2 hc y']
      rw [ex, ey]
set_option maxHeartbeats 400000 in
theorem pN_3 : 2 * pP + 1 < 3 * nN := by decide +kernel
set_option maxHeartbeats 400000 in
theorem nN_odd : nN % 2 = 1 := by decide +kernel
/-- the points i G + e K -/
def cyF {F : Type} [Lean.Grind.Field F] [DecidableEq F] (c : Int → F) (K : Option (F × F)) (i : Nat) : Option (F × F) := ea (zm (gG c) ((i % nN : Nat) : Int)) (zm K ((i / nN : Nat) - 1 : Int))
set_option maxHeartbeats 400000 in
theorem cyc {F : Type} [Lean.Grind.Field F] [DecidableEq F] {c : Int → F} (hc : cH pP c) {K : Option (F × F)} (hK : onC (c 7) K) : ∃ z : Int, K = zm (gG c) z := by
  apply Classical.byContradiction
  intro hn
  have H : ∀ z, K ≠ zm (gG c) z := fun z q => hn ⟨z, q⟩
  have hg := gG_on hc
  have hN : 0 < nN := Nat.lt_trans (by decide) nN_pr.1
  have hon : ∀ i, onC (c 7) (cyF c K i) := fun i => g_on hc (zm_on hc hg _) (zm_on hc hK _)
  have hL : 3 * nN ≤ (List.range (2 * pP + 1)).length := by
    refine pig (fun i => phF hc (cyF c K i)) (3 * nN) _ ?_ (fun i hi => List.mem_range.mpr (phF_lt hc _))
    intro i hi j hj hij e
    have e := phF_inj hc (hon i) (hon j) e
    have hi3 : i / nN < 3 := (Nat.div_lt_iff_lt_mul hN).mpr hi
    have hj3 : j / nN < 3 := (Nat.div_lt_iff_lt_mul hN).mpr hj
    have ri := Nat.mod_lt i hN
    have rj := Nat.mod_lt j hN
    have di := Nat.div_add_mod i nN
    have dj := Nat.div_add_mod j nN
    unfold cyF at e
    generalize i / nN = a at *
    generalize j / nN = b at *
    generalize i % nN = x at *
    generalize j % nN = y at *
    -- the difference
    have e2 : ea (zm (gG c) ((x : Int) - (y : Int))) (zm K ((a : Int) - (b : Int))) = none := by
      have h1 : ea (ea (zm (gG c) (x : Int)) (zm K ((a : Int) - 1))) (en (ea (zm (gG c) (y : Int)) (zm K ((b : Int) - 1)))) = none := by rw [e, ea_en]
      rw [g_n hc (zm_on hc hg _) (zm_on hc hK _), g_med hc (zm_on hc hg _) (zm_on hc hK _) (en_on (zm_on hc hg _)) (en_on (zm_on hc hK _)), ← zm_neg hc hg, ← zm_neg hc hK, ← zm_add hc hg, ← zm_add hc hK] at h1
      rw [show (x : Int) - (y : Int) = x + -(y : Int) from by omega, show (a : Int) - (b : Int) = a - 1 + -((b : Int) - 1) from by omega]
      exact h1
    have K1 : ∀ z : Int, ea (zm (gG c) z) K ≠ none := by
      intro z q
      have := g_0 hc (zm_on hc hg z) (en_on hK) (by rw [en_en]; exact q)
      apply H (-z)
      rw [zm_neg hc hg, this, en_en]
    have K2 : ∀ z : Int, ea (zm (gG c) z) (zm K 2) ≠ none := by
      intro z q
      have h1 : zm (gG c) (-z) = zm K 2 := by
        have := g_0 hc (zm_on hc hg z) (en_on (zm_on hc hK 2)) (by rw [en_en]; exact q)
        rw [zm_neg hc hg, this, en_en]
      obtain ⟨m, hm⟩ : ∃ m : Int, zm (gG c) (-z) = zm (gG c) (m + m) := by
        by_cases g : z % 2 = 0
        · exact ⟨-(z / 2), by congr 1; omega⟩
        · refine ⟨(-z + nN * 1) / 2, ?_⟩
          rw [show (-z + nN * 1) / 2 + (-z + nN * 1) / 2 = -z + (nN : Int) * 1 from by have := nN_odd; generalize nN = n at *; omega]
          exact (zG_n hc _ _).symm
      rw [h1, show (2 : Int) = 1 + 1 from rfl, zm_add hc hK, zm_1, zm_add hc hg] at hm
      have h2 : ea (ea K (en (zm (gG c) m))) (ea K (en (zm (gG c) m))) = none := by
        have oS := en_on (zm_on hc hg m)
        rw [g_med hc hK oS hK oS, hm, ← g_n hc (zm_on hc hg m) (zm_on hc hg m), ea_en]
      have h3 := g_2 hc (g_on hc hK (en_on (zm_on hc hg m))) h2
      exact H m (g_0 hc hK (zm_on hc hg m) h3)
    have nk : ∀ z w : Int, ea (zm (gG c) z) (zm K w) = none → ea (zm (gG c) (-z)) (zm K (-w)) = none := by
      intro z w q
      rw [zm_neg hc hg, zm_neg hc hK, ← g_n hc (zm_on hc hg _) (zm_on hc hK _), q]
      rfl
    have cs : (a : Int) - b = 0 ∨ (a : Int) - b = 1 ∨ (a : Int) - b = -1 ∨ (a : Int) - b = 2 ∨ (a : Int) - b = -2 := by omega
    rcases cs with q | q | q | q | q
    · rw [q, zm_0, ea_0n] at e2
      have hd := zG_0 hc e2
      obtain ⟨k, hk⟩ := hd
      have hab : a = b := by omega
      have k0 : k = 0 := by
        apply Classical.byContradiction
        intro hk0
        rcases Int.lt_or_gt_of_ne hk0 with hk1 | hk1
        · have : (nN : Int) * k ≤ (nN : Int) * (-1) := Int.mul_le_mul_of_nonneg_left (by omega) (by omega)
          omega
        · have : (nN : Int) * 1 ≤ (nN : Int) * k := Int.mul_le_mul_of_nonneg_left (by omega) (by omega)
          omega
      rw [k0, Int.mul_zero] at hk
      have : x = y := by omega
      apply hij
      rw [← di, ← dj, hab, this]
    · rw [q, zm_1] at e2
      exact K1 _ e2
    · have := nk _ _ e2
      rw [q, show -(-1 : Int) = 1 from rfl, zm_1] at this
      exact K1 _ this
    · rw [q] at e2
      exact K2 _ e2
    · have := nk _ _ e2
      rw [q] at this
      exact K2 _ this
  rw [List.length_range] at hL
  have := pN_3
  omega
set_option maxHeartbeats 400000 in
/-- small multiples of a key are no zero -/
theorem sm_ne {F : Type} [Lean.Grind.Field F] [DecidableEq F] {c : Int → F} (hc : cH pP c) {K : Option (F × F)} (hK : onC (c 7) K) (h0 : K ≠ none) {m : Nat} (hm : 0 < m) (hm2 : m < 100) : sm K m ≠ none := by
  intro q
  obtain ⟨z, rfl⟩ := cyc hc hK
  have hg := gG_on hc
  rw [← zm_mul hc hg] at q
  have hd := zG_0 hc q
  have h1 : nN ∣ z.natAbs * m := by
    have := Int.natAbs_dvd_natAbs.mpr hd
    rw [Int.natAbs_mul, Int.natAbs_natCast, Int.natAbs_natCast] at this
    exact this
  rcases pr_mul nN_pr h1 with h2 | h2
  · apply h0
    obtain ⟨k, hk⟩ : (nN : Int) ∣ z := Int.natAbs_dvd_natAbs.mp (by rw [Int.natAbs_natCast]; exact h2)
    have := zG_n hc 0 k
    rw [zm_0, Int.zero_add] at this
    rw [hk]
    exact this
  · have := Nat.le_of_dvd hm h2
    have h100 : 100 < nN := by decide +kernel
    omega
