-- the cells of the signatures' object, and a byte[] beside them (key 102)
def sgC (q : Nat → Nat) (cy : Nat → ClassId) (n1 : Nat) (R : Nat → Nat → Option Nat) (L : Nat → Nat → Int64) (B : Nat → Nat → Int32) (k : Nat) : va_E :=
  if k = 0 then .inr (10, [.ref (q 1), .ref (q 8), .ref (q 9), .ref (q 10), .ref (q 11), .ref (q 12), .ref (q 3), .ref (q 6), .ref (q 7), .ref (q 4), .ref (q 5), .ref (q 94), .ref (q 98)])
  else if k = 1 then .inr (3, [.ref (q 2), .ref (q 17), .ref (q 18), .ref (q 19), .ref (q 20), .ref (q 21), .ref (q 22)])
  else if k = 2 then .inl (cy 5, 6, .inr (.inr (.inr (.inr (R 2)))))
  else if k = 3 then .inl (cy 5, 4, .inr (.inr (.inr (.inr (R 3)))))
  else if k = 4 then .inl (cy 4, 8, .inr (.inr (.inr (.inr (R 4)))))
  else if k = 5 then .inl (cy 4, 8, .inr (.inr (.inr (.inr (R 5)))))
  else if k < 8 then .inl (cy 0, 262, .inl (B k))
  else if k = 102 then .inl (cy 0, n1, .inl (B 102))
  else if k < 18 then .inl (cy 2, 5, .inr (.inl (L k)))
  else if k < 30 then .inl (cy 2, 10, .inr (.inl (L k)))
  else if k % 4 = 2 then .inr (7, [.ref (q (k + 1)), .ref (q (k + 2)), .ref (q (k + 3)), .int (B k 0), .int (B k 1)])
  else .inl (cy 2, 10, .inr (.inl (L k)))
set_option maxHeartbeats 400000 in
theorem sgC_c {q : Nat → Nat} {cy : Nat → ClassId} {n1 : Nat} {R : Nat → Nat → Option Nat} {L L' : Nat → Nat → Int64} {B B' : Nat → Nat → Int32} {k : Nat} (h1 : L' k = L k) (h2 : B' k = B k) : sgC q cy n1 R L' B' k = sgC q cy n1 R L B k := by
  unfold sgC
  rw [h1, h2]
  by_cases h : k = 102
  · subst h; rw [h2]
  · rw [if_neg h, if_neg h]
set_option maxHeartbeats 400000 in
theorem sgC_P {q : Nat → Nat} {cy : Nat → ClassId} {n1 : Nat} {R : Nat → Nat → Option Nat} {L : Nat → Nat → Int64} {B : Nat → Nat → Int32} {k : Nat} (h1 : 30 ≤ k) (h2 : k < 102) (h3 : k % 4 = 2) : sgC q cy n1 R L B k = .inr (7, [.ref (q (k + 1)), .ref (q (k + 2)), .ref (q (k + 3)), .int (B k 0), .int (B k 1)]) := by
  unfold sgC
  rw [if_neg (by omega), if_neg (by omega), if_neg (by omega), if_neg (by omega), if_neg (by omega), if_neg (by omega), if_neg (by omega), if_neg (by omega), if_neg (by omega), if_neg (by omega), if_pos h3]
set_option maxHeartbeats 400000 in
theorem sgC_L {q : Nat → Nat} {cy : Nat → ClassId} {n1 : Nat} {R : Nat → Nat → Option Nat} {L : Nat → Nat → Int64} {B : Nat → Nat → Int32} {k : Nat} (h1 : 18 ≤ k) (h2 : k < 102) (h3 : k < 30 ∨ k % 4 ≠ 2) : sgC q cy n1 R L B k = .inl (cy 2, 10, .inr (.inl (L k))) := by
  unfold sgC
  rw [if_neg (by omega), if_neg (by omega), if_neg (by omega), if_neg (by omega), if_neg (by omega), if_neg (by omega), if_neg (by omega), if_neg (by omega), if_neg (by omega)]
  by_cases h : k < 30
  · rw [if_pos h]
  · rw [if_neg h, if_neg (by omega)]
set_option maxHeartbeats 400000 in
theorem sgC_5 {q : Nat → Nat} {cy : Nat → ClassId} {n1 : Nat} {R : Nat → Nat → Option Nat} {L : Nat → Nat → Int64} {B : Nat → Nat → Int32} {k : Nat} (h1 : 8 ≤ k) (h2 : k < 18) : sgC q cy n1 R L B k = .inl (cy 2, 5, .inr (.inl (L k))) := by
  unfold sgC
  rw [if_neg (by omega), if_neg (by omega), if_neg (by omega), if_neg (by omega), if_neg (by omega), if_neg (by omega), if_neg (by omega), if_neg (by omega), if_pos h2]
def sgQ (q : Nat → Nat) (R : Nat → Nat → Option Nat) : Prop := (∀ i, i < 6 → R 2 i = some (q (23 + i))) ∧ (∀ i, i < 4 → R 3 i = some (q (13 + i))) ∧ (∀ i, i < 8 → R 4 i = some (q (30 + 4 * i))) ∧ ∀ i, i < 8 → R 5 i = some (q (62 + 4 * i))
-- powers
def pw {F : Type} [Lean.Grind.Field F] (w : F) : Nat → F
  | 0 => 1
  | n + 1 => pw w n * w
set_option maxHeartbeats 400000 in
theorem pw_add {F : Type} [Lean.Grind.Field F] (w : F) (a : Nat) : ∀ b, pw w (a + b) = pw w a * pw w b
  | 0 => by show pw w a = pw w a * 1; grind
  | b + 1 => by
    show pw w (a + b) * w = pw w a * (pw w b * w)
    rw [pw_add w a b]
    grind
set_option maxHeartbeats 400000 in
theorem pw_1 {F : Type} [Lean.Grind.Field F] (w : F) : pw w 1 = w := by show 1 * w = w; grind
set_option maxHeartbeats 400000 in
theorem pw_c {F : Type} [Lean.Grind.Field F] {c : Int → F} (hc : cH pP c) (T : Nat) : ∀ n, pw (c (T : Int)) n = c ((T ^ n % pP : Nat) : Int)
  | 0 => by
    show 1 = c ((1 % pP : Nat) : Int)
    rw [c_mod hc]
    exact (c_1 hc).symm
  | n + 1 => by
    show pw (c (T : Int)) n * c (T : Int) = _
    rw [pw_c hc T n, ← c_tm hc, Nat.pow_succ, Nat.mod_mul_mod]
def t6 (i : Nat) : Nat := (tb_6.getD i 0).toNatClampNeg
set_option maxHeartbeats 400000 in
theorem t6_e : ∀ i, i < 52 → tb_6.getD i 0 = nI (t6 i) ∧ t6 i < 89 := by decide +kernel
def exps : Nat → Nat → Nat
  | 0, i => if i = 0 then 1 else 0
  | s + 1, i => if i = t6 (4 * s) then exps s (t6 (4 * s + 1)) * 2 ^ t6 (4 * s + 2) + exps s (t6 (4 * s + 3)) else exps s i
set_option maxHeartbeats 400000 in
theorem ex_1 : ∀ s, s < 13 → t6 (4 * s) < 6 ∧ t6 (4 * s + 1) < 6 ∧ t6 (4 * s + 3) < 6 ∧ 0 < exps s (t6 (4 * s + 1)) ∧ 0 < exps s (t6 (4 * s + 3)) := by decide +kernel
set_option maxHeartbeats 400000 in
theorem ex_2 : 0 < exps 13 3 ∧ exps 13 3 * 4 = kE := by decide +kernel
/-- rows of powers -/
def rwI {F : Type} [Lean.Grind.Field F] (c : Int → F) (w : F) (s : Nat) (L : Nat → Nat → Int64) : Prop := ∀ i, i < 6 → 0 < exps s i → c (Tv (L (23 + i)) 10) = pw w (exps s i) ∧ sz (L (23 + i)) 2
def rwK (L0 L : Nat → Nat → Int64) : Prop := ∀ k, ¬ (23 ≤ k ∧ k < 29) → k ≠ 64 → L k = L0 k
set_option maxHeartbeats 400000 in
theorem rwK_t {L0 L L' : Nat → Nat → Int64} (h : rwK L0 L) {k : Nat} (hk : (23 ≤ k ∧ k < 29) ∨ k = 64) (f : Nat → Int64) (e : L' = va_up L k f) : rwK L0 L' := fun j h1 h2 => by
  rw [e, up_n (by omega)]
  exact h j h1 h2
set_option maxHeartbeats 400000 in
theorem mulOk {F : Type} [Lean.Grind.Field F] {c : Int → F} (hc : cH pP c) {f g h : Nat → Int64} (e : cong (Tv f 10) (Tv g 10 * Tv h 10) ∧ sz f 1) : c (Tv f 10) = c (Tv g 10) * c (Tv h 10) := by rw [c_cong hc e.1, c_mul hc]
set_option maxHeartbeats 400000 in
theorem sz_12 {f : Nat → Int64} (h : sz f 1) : sz f 2 := sz_w h (by decide)
set_option maxHeartbeats 400000 in
theorem v_tR47 {F : Type} [Lean.Grind.Field F] {c : Int → F} (hc : cH pP c) (fu : Nat) (hfu : 100 ≤ fu) (MC MS : Nat) (cy : Nat → ClassId) (ad : Nat → Nat) (mi : Nat) (q : Nat → Nat) (hq : Ij 103 q) (n1 : Nat) (R : Nat → Nat → Option Nat) (hR : sgQ q R) (κ σ : Nat) (B : Nat → Nat → Int32) (w : F) (L0 : Nat → Nat → Int64) (M0 : Mm) (Φ : Mm → Prop) (K : Nat → Nat → Mm → Nat → Nat → Int32 → Prop) {s : Nat} (hs : s < 13) (hK : ∀ L M, Rg 103 q (sgC q cy n1 R L B) M → fr 103 q M0 M → rwK L0 L → rwI c w (s + 1) L → K κ σ M (q 1) (q 64) (nI (4 * (s + 1)))) : ∀ r i n L M, i + r = t6 (4 * s + 2) → r < n → Rg 103 q (sgC q cy n1 R L B) M → fr 103 q M0 M → rwK L0 L → rwI c w s L → c (Tv (L 64) 10) = pw w (exps s (t6 (4 * s + 1)) * 2 ^ i) → sz (L 64) 2 → xw_mCu_takeRoot_47 fu MC MS cy ad mi Φ K n κ σ M (q 1) (q 64) (nI (4 * s)) (nI i) := by
  have h6 := ex_1 s hs
  have t2 := t6_e (4 * s + 2) (by omega)
  have t3 := t6_e (4 * s + 3) (by omega)
  have t0 := t6_e (4 * s) (by omega)
  intro r
  induction r with
  | zero =>
    intro i n L M hi hn hM hfr hk hI hT hS
    obtain ⟨n, rfl⟩ : ∃ m, n = m + 1 := ⟨n - 1, by omega⟩
    show xv_mCu_takeRoot_47 fu MC MS cy ad mi Φ K (xw_mCu_takeRoot_47 fu MC MS cy ad mi Φ K n) κ σ M (q 1) (q 64) (nI (4 * s)) (nI i)
    unfold xv_mCu_takeRoot_47
    have hi2 : i = t6 (4 * s + 2) := by omega
    refine m_bn (nI_add (4 * s) 2) ⟨inb_nI (by omega) (by decide), m_b ?_⟩
    rw [nI_clamp (n := 4 * s + 2) (by omega), t2.1]
    refine m_t (show nI (t6 (4 * s + 2)) ≤ nI i from by rw [hi2]; exact Int32.le_refl _) ?_
    refine m_gr (hM 1 (by decide)) rfl (m_bn (nI_add (4 * s) 3) ⟨inb_nI (by omega) (by decide), m_b ?_⟩)
    rw [nI_clamp (n := 4 * s + 3) (by omega), t3.1]
    refine m_ar (hM 2 (by decide)) (inb_nI (by omega) (by decide)) (by rw [nI_clamp (by omega)]; exact hR.1 _ h6.2.2.1) ?_
    refine m_gr (hM 1 (by decide)) rfl ⟨rfl, ⟨inb_nI (by omega) (by decide), m_b ?_⟩⟩
    rw [nI_clamp (n := 4 * s) (by omega), t0.1]
    refine m_ar (hM 2 (by decide)) (inb_nI (by omega) (by decide)) (by rw [nI_clamp (by omega)]; exact hR.1 _ h6.1) ?_
    obtain ⟨j, hj⟩ : ∃ j, j = t6 (4 * s + 3) := ⟨_, rfl⟩
    obtain ⟨d, hd⟩ : ∃ d, d = t6 (4 * s) := ⟨_, rfl⟩
    rw [← hj, ← hd]
    rw [← hj, ← hd] at h6
    have m64 : mat M (q 64) (.inl (cy 2, 10, .inr (.inl (L 64)))) := by rw [← sgC_L (q := q) (cy := cy) (n1 := n1) (R := R) (L := L) (B := B) (k := 64) (by omega) (by omega) (by omega)]; exact hM 64 (by omega)
    have mj : mat M (q (23 + j)) (.inl (cy 2, 10, .inr (.inl (L (23 + j))))) := by rw [← sgC_L (q := q) (cy := cy) (n1 := n1) (R := R) (L := L) (B := B) (k := 23 + j) (by omega) (by omega) (by omega)]; exact hM _ (by omega)
    have md : mat M (q (23 + d)) (.inl (cy 2, 10, .inr (.inl (L (23 + d))))) := by rw [← sgC_L (q := q) (cy := cy) (n1 := n1) (R := R) (L := L) (B := B) (k := 23 + d) (by omega) (by omega) (by omega)]; exact hM _ (by omega)
    have ij := hI j h6.2.2.1 h6.2.2.2.2
    have szj := sz_m hS ij.2 (by decide) (by decide) (by decide)
    have fin : ∀ f : Nat → Int64, cong (Tv f 10) (Tv (L 64) 10 * Tv (L (23 + j)) 10) ∧ sz f 1 → ∀ M', Rg 103 q (sgC q cy n1 R (va_up L (23 + d) f) B) M' → fr 103 q M M' → K κ σ M' (q 1) (q 64) (nI (4 * s) + 4) := by
      intro f hf M' hM' hf'
      rw [show nI (4 * s) + (4 : Int32) = nI (4 * (s + 1)) from nI_add (4 * s) 4]
      refine hK _ M' hM' (fr_t hfr hf') (rwK_t hk (Or.inl ⟨by omega, by omega⟩) f rfl) (fun i' hi' he => ?_)
      by_cases hid : i' = d
      · subst hid
        rw [up_e]
        refine ⟨?_, sz_12 hf.2⟩
        rw [mulOk hc hf, hT, ij.1, hi2, ← pw_add]
        congr 1
        show _ = if i' = t6 (4 * s) then exps s (t6 (4 * s + 1)) * 2 ^ t6 (4 * s + 2) + exps s (t6 (4 * s + 3)) else exps s i'
        rw [if_pos hd, hj]
      · have e : exps (s + 1) i' = exps s i' := by
          show (if i' = t6 (4 * s) then exps s (t6 (4 * s + 1)) * 2 ^ t6 (4 * s + 2) + exps s (t6 (4 * s + 3)) else exps s i') = _
          rw [if_neg (by rw [← hd]; exact hid)]
        rw [e] at he ⊢
        rw [up_n (by omega)]
        exact hI i' hi' he
    by_cases hjd : j = d
    · subst hjd
      refine m_t rfl ?_
      obtain ⟨f, ef, hf⟩ := v_Cu_multiply_e21 fu (by omega) (L 64) (L (23 + j)) szj
      refine ⟨_, _, mal_c m64 (mal_c mj (mal_n _)), mnd_q hq [64, 23 + j] (fun k hk => by simp at hk; omega) (by simp; omega), f, ef, ?_⟩
      have e1 : sgC q cy n1 R (va_up L (23 + j) f) B 64 = .inl (cy 2, 10, .inr (.inl (L 64))) := by rw [sgC_L (by omega) (by omega) (by omega), up_n (by omega)]
      have e2 : sgC q cy n1 R (va_up L (23 + j) f) B (23 + j) = .inl (cy 2, 10, .inr (.inl f)) := by rw [sgC_L (by omega) (by omega) (by omega), up_e]
      rw [← e1, ← e2]
      exact m_lf hM hq (sgC q cy n1 R (va_up L (23 + j) f) B) [64, 23 + j] (fun k hk => by simp at hk; omega) (fun k hk hn => sgC_c (up_n (fun e => hn (by simp [e]))) rfl) (fun M' hM' hf' => m_b (fin f hf M' hM' hf'))
    · refine m_f (fun e => hjd (by have := hq _ _ (by omega) (by omega) e; omega)) ?_
      obtain ⟨f, ef, hf⟩ := v_Cu_multiply fu (by omega) (L 64) (L (23 + j)) (L (23 + d)) szj
      refine ⟨_, _, _, mal_c m64 (mal_c mj (mal_c md (mal_n _))), mnd_q hq [64, 23 + j, 23 + d] (fun k hk => by simp at hk; omega) (by simp; omega), f, ef, ?_⟩
      have e1 : sgC q cy n1 R (va_up L (23 + d) f) B 64 = .inl (cy 2, 10, .inr (.inl (L 64))) := by rw [sgC_L (by omega) (by omega) (by omega), up_n (by omega)]
      have e2 : sgC q cy n1 R (va_up L (23 + d) f) B (23 + j) = .inl (cy 2, 10, .inr (.inl (L (23 + j)))) := by rw [sgC_L (by omega) (by omega) (by omega), up_n (by omega)]
      have e3 : sgC q cy n1 R (va_up L (23 + d) f) B (23 + d) = .inl (cy 2, 10, .inr (.inl f)) := by rw [sgC_L (by omega) (by omega) (by omega), up_e]
      rw [← e1, ← e2, ← e3]
      exact m_lf hM hq (sgC q cy n1 R (va_up L (23 + d) f) B) [64, 23 + j, 23 + d] (fun k hk => by simp at hk; omega) (fun k hk hn => sgC_c (up_n (fun e => hn (by simp [e]))) rfl) (fun M' hM' hf' => m_b (fin f hf M' hM' hf'))
  | succ r ih =>
    intro i n L M hi hn hM hfr hk hI hT hS
    obtain ⟨n, rfl⟩ : ∃ m, n = m + 1 := ⟨n - 1, by omega⟩
    show xv_mCu_takeRoot_47 fu MC MS cy ad mi Φ K (xw_mCu_takeRoot_47 fu MC MS cy ad mi Φ K n) κ σ M (q 1) (q 64) (nI (4 * s)) (nI i)
    unfold xv_mCu_takeRoot_47
    refine m_bn (nI_add (4 * s) 2) ⟨inb_nI (by omega) (by decide), m_b ?_⟩
    rw [nI_clamp (n := 4 * s + 2) (by omega), t2.1]
    refine m_f (show ¬ nI (t6 (4 * s + 2)) ≤ nI i from nI_ge (by omega) (by omega)) ?_
    obtain ⟨f, ef, hf⟩ := v_Cu_multiply_e10e20 fu (by omega) (L 64) (sz_m hS hS (by decide) (by decide) (by decide))
    refine ⟨_, mal_c (hM 64 (by decide)) (mal_n _), mnd_q hq [64] (by decide) (by decide), f, ef, ?_⟩
    refine m_lf hM hq (sgC q cy n1 R (va_up L 64 f) B) [64] (by decide) (fun k hk hn => sgC_c (up_n (fun e => hn (by simp [e]))) rfl) (fun M' hM' hf' => m_b ?_)
    rw [nI_1]
    refine ih (i + 1) n _ M' (by omega) (by omega) hM' (fr_t hfr hf') (rwK_t hk (Or.inr rfl) f rfl) (fun i' hi' he => ?_) ?_ ?_
    · rw [up_n (by omega)]; exact hI i' hi' he
    · rw [up_e, mulOk hc hf, hT, ← pw_add]
      congr 1
      rw [Nat.pow_succ]
      generalize 2 ^ i = X
      generalize exps s (t6 (4 * s + 1)) = Y
      grind
    · rw [up_e]; exact sz_12 hf.2
set_option maxHeartbeats 400000 in
theorem v_tR16 {F : Type} [Lean.Grind.Field F] {c : Int → F} (hc : cH pP c) (fu : Nat) (hfu : 100 ≤ fu) (MC MS : Nat) (cy : Nat → ClassId) (ad : Nat → Nat) (mi : Nat) (q : Nat → Nat) (hq : Ij 103 q) (n1 : Nat) (R : Nat → Nat → Option Nat) (hR : sgQ q R) (κ σ : Nat) (B : Nat → Nat → Int32) (w : F) (L0 : Nat → Nat → Int64) (M0 : Mm) (Φ : Mm → Prop) (hΦ : ∀ L M, Rg 103 q (sgC q cy n1 R L B) M → fr 103 q M0 M → rwK L0 L → c (Tv (L 64) 10) = pw w kE → sz (L 64) 1 → Φ M) : ∀ r s n L M, s + r = 13 → r < n → Rg 103 q (sgC q cy n1 R L B) M → fr 103 q M0 M → rwK L0 L → rwI c w s L → xw_mCu_takeRoot_16 fu MC MS cy ad mi Φ n κ σ M (q 1) (q 64) (nI (4 * s)) := by
  intro r
  induction r with
  | zero =>
    intro s n L M hi hn hM hfr hk hI
    obtain ⟨n, rfl⟩ : ∃ m, n = m + 1 := ⟨n - 1, by omega⟩
    have : s = 13 := by omega
    subst this
    show xv_mCu_takeRoot_16 fu MC MS cy ad mi Φ (xw_mCu_takeRoot_16 fu MC MS cy ad mi Φ n) κ σ M (q 1) (q 64) (nI 52)
    unfold xv_mCu_takeRoot_16
    refine m_t (by decide) (m_gr (hM 1 (by decide)) rfl (m_ar (hM 2 (by decide)) (by decide) (hR.1 3 (by decide)) (m_gr (hM 1 (by decide)) rfl ⟨rfl, m_ar (hM 2 (by decide)) (by decide) (hR.1 3 (by decide)) ⟨rfl, ?_⟩⟩)))
    have i3 := hI 3 (by decide) ex_2.1
    obtain ⟨f, ef, hf⟩ := v_Cu_multiply_e10 fu (by omega) (L 26) (L 64) (sz_m i3.2 i3.2 (by decide) (by decide) (by decide))
    refine ⟨_, _, mal_c (hM 26 (by decide)) (mal_c (hM 64 (by decide)) (mal_n _)), mnd_q hq [26, 64] (by decide) (by decide), f, ef, ?_⟩
    refine m_lf hM hq (sgC q cy n1 R (va_up L 64 f) B) [26, 64] (by decide) (fun k hk hn => sgC_c (up_n (fun e => hn (by simp [e]))) rfl) (fun M1 hM1 hf1 => ?_)
    obtain ⟨g, eg, hg⟩ := v_Cu_multiply_e10e20 fu (by omega) f (sz_m hf.2 hf.2 (by decide) (by decide) (by decide))
    refine ⟨_, mal_c (hM1 64 (by decide)) (mal_n _), mnd_q hq [64] (by decide) (by decide), g, eg, ?_⟩
    refine m_lf hM1 hq (sgC q cy n1 R (va_up (va_up L 64 f) 64 g) B) [64] (by decide) (fun k hk hn => sgC_c (up_n (fun e => hn (by simp [e]))) rfl) (fun M2 hM2 hf2 => ?_)
    refine hΦ _ M2 hM2 (fr_t hfr (fr_t hf1 hf2)) (rwK_t (rwK_t hk (Or.inr rfl) f rfl) (Or.inr rfl) g rfl) ?_ hg.2
    show c (Tv g 10) = _
    rw [mulOk hc hg, mulOk hc hf, i3.1, ← pw_add, ← pw_add]
    congr 1
  | succ r ih =>
    intro s n L M hi hn hM hfr hk hI
    obtain ⟨n, rfl⟩ : ∃ m, n = m + 1 := ⟨n - 1, by omega⟩
    show xv_mCu_takeRoot_16 fu MC MS cy ad mi Φ (xw_mCu_takeRoot_16 fu MC MS cy ad mi Φ n) κ σ M (q 1) (q 64) (nI (4 * s))
    unfold xv_mCu_takeRoot_16
    have hs : s < 13 := by omega
    have h6 := ex_1 s hs
    have t1 := t6_e (4 * s + 1) (by omega)
    refine m_f (show ¬ (52 : Int32) ≤ nI (4 * s) from nI_ge (b := 52) (by omega) (by decide)) (m_gr (hM 1 (by decide)) rfl (m_bn (nI_1 (4 * s)) ⟨inb_nI (by omega) (by decide), m_b ?_⟩))
    rw [nI_clamp (n := 4 * s + 1) (by omega), t1.1]
    refine m_ar (hM 2 (by decide)) (inb_nI (by omega) (by decide)) (by rw [nI_clamp (by omega)]; exact hR.1 _ h6.2.1) ?_
    have hsrc := hI _ h6.2.1 h6.2.2.2.1
    generalize hu : t6 (4 * s + 1) = u at *
    refine m_cj hM hq (a := 23 + u) (b := 64) (n0 := 10) (n1 := 10) (by omega) (by decide) (sgC_L (by omega) (by omega) (by omega)) rfl (by decide) (sgC q cy n1 R (va_up L 64 (va_cpy (L (23 + u)) (L 64) (0 : Int32).toNatClampNeg (0 : Int32).toNatClampNeg (10 : Int32).toNatClampNeg)) B) rfl (fun j _ hn => sgC_c (up_n hn) rfl) (fun M1 hM1 hf1 => ?_)
    refine v_tR47 hc fu hfu MC MS cy ad mi q hq n1 R hR κ σ B w L0 M0 Φ _ hs (fun L' M' h1 h2 h3 h4 => ih (s + 1) n L' M' (by omega) (by omega) h1 h2 h3 h4) (t6 (4 * s + 2)) 0 fu _ M1 (by omega) (by have := (t6_e (4 * s + 2) (by omega)).2; omega) hM1 (fr_t hfr hf1) (rwK_t hk (Or.inr rfl) _ rfl) (fun i' hi' he => ?_) ?_ ?_
    · rw [up_n (by omega)]; exact hI i' hi' he
    · rw [up_e, Tv_c (fun j hj => cpy10 j hj), hsrc.1, hu]
      congr 1
      show _ = exps s u * 1
      omega
    · rw [up_e]; exact sz_c (fun j hj => cpy10 j hj) hsrc.2
set_option maxHeartbeats 400000 in
/-- a root of the number, if it has one -/
theorem v_takeRoot {F : Type} [Lean.Grind.Field F] {c : Int → F} (hc : cH pP c) (fu : Nat) (hfu : 100 ≤ fu) (MC MS : Nat) (cy : Nat → ClassId) (ad : Nat → Nat) (mi : Nat) (q : Nat → Nat) (hq : Ij 103 q) (n1 : Nat) (R : Nat → Nat → Option Nat) (hR : sgQ q R) (κ σ : Nat) (B : Nat → Nat → Int32) (L : Nat → Nat → Int64) (M : Mm) (Φ : Mm → Prop) (hM : Rg 103 q (sgC q cy n1 R L B) M) (hs : sz (L 18) 2) (hΦ : ∀ L' M', Rg 103 q (sgC q cy n1 R L' B) M' → fr 103 q M M' → rwK L L' → c (Tv (L' 64) 10) = pw (c (Tv (L 18) 10)) kE → sz (L' 64) 1 → Φ M') : xw_mCu_takeRoot fu MC MS cy ad mi Φ κ σ M (q 1) (q 18) (q 64) := by
  unfold xw_mCu_takeRoot
  refine m_gr (hM 1 (by decide)) rfl (m_ar (hM 2 (by decide)) (by decide) (hR.1 0 (by decide)) ?_)
  refine m_cj hM hq (a := 18) (b := 23) (n0 := 10) (n1 := 10) (by decide) (by decide) rfl rfl (by decide) (sgC q cy n1 R (va_up L 23 (va_cpy (L 18) (L 23) (0 : Int32).toNatClampNeg (0 : Int32).toNatClampNeg (10 : Int32).toNatClampNeg)) B) rfl (fun j _ hn => sgC_c (up_n hn) rfl) (fun M1 hM1 hf1 => ?_)
  refine v_tR16 hc fu hfu MC MS cy ad mi q hq n1 R hR κ σ B (c (Tv (L 18) 10)) L M Φ hΦ 13 0 fu _ M1 (by omega) (by omega) hM1 hf1 (rwK_t (fun _ _ _ => rfl) (Or.inl (by omega)) _ rfl) (fun i hi he => ?_)
  have i0 : i = 0 := by
    apply Classical.byContradiction
    intro g
    have : exps 0 i = 0 := if_neg g
    omega
  subst i0
  show c (Tv (va_up L 23 _ 23) 10) = pw _ 1 ∧ sz (va_up L 23 _ 23) 2
  rw [up_e, pw_1, Tv_c (fun j hj => cpy10 j hj)]
  exact ⟨rfl, sz_c (fun j hj => cpy10 j hj) hs⟩
