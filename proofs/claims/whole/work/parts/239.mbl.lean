-- blocks and coins in the memory
def kB (b : Nat) : Nat := 256 + 512 * b
/-- which of its block's outputs a coin is -/
def ckO (rw : Nat → List Int32) (c : Cn) : Nat := nOut ((TLb rw c.1).take c.2.1) + c.2.2
def ck (rw : Nat → List Int32) (c : Cn) : Nat := kB c.1 + 8 + ckO rw c
def cVd (rw : Nat → List Int32) (nb : Nat) (c : Cn) : Prop := Vdr rw nb c.1 c.2.1 ∧ c.2.2 < (txO rw c.1 c.2.1).2.2.2.1.length
def coO (q : Nat → Nat) (rw : Nat → List Int32) (c : Cn) (sl : Int32) : va_E := .inr (2, [.ref (q (kB c.1)), .int (nI (32 * c.2.1)), .int (nI (leP (idT rw c.1 c.2.1) 0 4)), .int (nI c.2.2), .long (lN (cnV rw c)), .int (if c.2.1 = 0 then 1 else 0), .int (nI ((cnO rw c).1 + 8)), .int (nI (cnO rw c).2.1), .int (nI ((cnO rw c).2.1 + (cnO rw c).2.2)), .int sl])
def bB (x : Bool) : Int32 := if x = true then 1 else 0
def blO (q : Nat → Nat) (par hgt tim : Nat → Nat) (bit : Nat → Int32) (b : Nat) (bad vl : Bool) (mk : Nat) : va_E := .inr (1, [if b = 0 then .null else .ref (q (kB (par b))), .ref (q (kB b + 1)), .ref (q (kB b + 2)), .ref (q (kB b + 3)), .int (nI (hgt b)), .long (lN (tim b)), .int (bit b), .long (lN (wrk par bit b)), if b = 0 then .null else .ref (q (kB b + 4)), .int (bB bad), .int (bB vl), .int (nI mk)])
/-- block b in the memory, but for its coins -/
def bk1 (P : Nat → Prop) (q : Nat → Nat) (C : Nat → va_E) (cy : Nat → ClassId) (par hgt tim : Nat → Nat) (bit : Nat → Int32) (rw : Nat → List Int32) (b : Nat) (bad vl : Bool) (mk : Nat) : Prop := (P (kB b) ∧ P (kB b + 1) ∧ P (kB b + 2) ∧ P (kB b + 3) ∧ (0 < b → P (kB b + 4))) ∧ C (kB b) = blO q par hgt tim bit b bad vl mk ∧ C (kB b + 1) = .inl (cy 0, (rw b).length, .inl (lf (rw b))) ∧ (∃ g, C (kB b + 2) = .inl (cy 0, 32, .inl g) ∧ ∀ j, j < 32 → g j = bIf rw b j) ∧ (∃ n g, C (kB b + 3) = .inl (cy 0, n, .inl g) ∧ n ≤ 10000 ∧ (0 < b → n = 32 * (TLb rw b).length + 32) ∧ ∀ t, t < (TLb rw b).length → ∀ j, j < 32 → g (32 * t + j) = idT rw b t j) ∧ (0 < b → ∃ f, C (kB b + 4) = .inl (cy 6, nOut (TLb rw b), .inr (.inr (.inr (.inr f)))) ∧ ∀ o, o < nOut (TLb rw b) → f o = some (q (kB b + 8 + o)))
def bkR (P : Nat → Prop) (q : Nat → Nat) (C : Nat → va_E) (cy : Nat → ClassId) (nb : Nat) (par hgt tim : Nat → Nat) (bit : Nat → Int32) (bad : Nat → Bool) (rw : Nat → List Int32) (vl : Nat → Bool) (mk : Nat → Nat) (sl : Cn → Int32) : Prop := (∀ b, b < nb → bk1 P q C cy par hgt tim bit rw b (bad b) (vl b) (mk b)) ∧ ∀ c, cVd rw nb c → P (ck rw c) ∧ C (ck rw c) = coO q rw c (sl c)
set_option maxHeartbeats 1000000 in
theorem up_mt {par : Nat → Nat} (hp : ∀ k, 0 < k → par k < k) (h0 : par 0 = 0) : ∀ n b, up par n b ≤ b
  | 0, b => Nat.le_refl _
  | n + 1, b => by
    show up par n (par b) ≤ b
    have h1 := up_mt hp h0 n (par b)
    by_cases q : b = 0
    · rw [q, h0] at h1 ⊢; exact h1
    · have := hp b (by omega)
      omega
set_option maxHeartbeats 1000000 in
set_option maxHeartbeats 1000000 in
/-- the block before b at height h -/
theorem w_anc (fu MC MS : Nat) (cy : Nat → ClassId) (ad : Nat → Nat) (mi : Nat) {P : Nat → Prop} {q : Nat → Nat} {C : Nat → va_E} {M : Mm} (hM : RG P q C M) {nb : Nat} {par hgt tim : Nat → Nat} {bit : Nat → Int32} {bad : Nat → Bool} {rw : Nat → List Int32} {vl : Nat → Bool} {mk : Nat → Nat} {sl : Cn → Int32} (hB : bkR P q C cy nb par hgt tim bit bad rw vl mk sl) (hp : ∀ k, 0 < k → par k < k) (hh : hgt 0 = 0 ∧ ∀ k, 0 < k → k < nb → hgt k = hgt (par k) + 1) (hh2 : ∀ k, k < nb → hgt k ≤ 1000) {Φ : Option Nat → Mm → Prop} {κ σ h : Nat} (hl : h ≤ 1000) : ∀ b n, b < nb → b < n → Φ (some (q (kB (up par (hgt b - h) b)))) M → xw_mBl_ancestor_2 fu MC MS cy ad mi Φ n κ σ M (nI h) (some (q (kB b))) := by
  intro b
  induction b using Nat.strongRecOn with
  | _ b ih =>
    intro n hb hn hΦ
    match n, hn with
    | n + 1, hn =>
      show xv_mBl_ancestor_2 fu MC MS cy ad mi Φ (xw_mBl_ancestor_2 fu MC MS cy ad mi Φ n) κ σ M (nI h) (some (q (kB b)))
      unfold xv_mBl_ancestor_2
      obtain ⟨⟨p0, -⟩, c0, -⟩ := hB.1 b hb
      have hm := g_at hM p0 c0
      have h1000 := hh2 b hb
      show mgi M (q (kB b)) 1 4 _
      refine m_gi hm rfl ?_
      by_cases g : hgt b ≤ h
      · refine m_t ((nI_leI (a := hgt b) (b := h) (by omega) (by omega)).mpr g) ?_
        rw [show hgt b - h = 0 from by omega] at hΦ
        exact hΦ
      · have hb0 : 0 < b := by
          by_cases e : b = 0
          · rw [e, hh.1] at g; omega
          · omega
        have e0 : (if b = 0 then Value.null else .ref (q (kB (par b)))) = .ref (q (kB (par b))) := if_neg (by omega)
        have hpb := hp b hb0
        have e1 := hh.2 b hb0 hb
        refine m_f (fun x => g ((nI_leI (a := hgt b) (b := h) (by omega) (by omega)).mp x)) ?_
        refine m_grp hm (x := q (kB (par b))) (congrArg some e0) (m_grp hm (x := q (kB (par b))) (congrArg some e0) ?_)
        refine ih (par b) hpb n (by omega) (by omega) ?_
        rw [show hgt b - h = (hgt (par b) - h) + 1 from by omega] at hΦ
        exact hΦ
