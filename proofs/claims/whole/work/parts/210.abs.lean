-- the keeper, without its arrays
abbrev Cn : Type := Nat × Nat × Nat
/-- a block's transactions -/
def TLb (rw : Nat → List Int32) (b : Nat) : List Tx5 := (pBl (lf (rw b)) (rw b).length).getD []
def txO (rw : Nat → List Int32) (b t : Nat) : Tx5 := (TLb rw b).getD t d5
def idT (rw : Nat → List Int32) (b t : Nat) : Nat → Int32 := dbl (fun i => lf (rw b) ((txO rw b t).1 + i)) ((txO rw b t).2.2.2.2 - (txO rw b t).1)
/-- a coin: block, transaction, output -/
def cnI (rw : Nat → List Int32) (c : Cn) : List Int32 := bl (idT rw c.1 c.2.1) 0 32
def cnO (rw : Nat → List Int32) (c : Cn) : In3 := (txO rw c.1 c.2.1).2.2.2.1.getD c.2.2 d3
def cnV (rw : Nat → List Int32) (c : Cn) : Nat := leP (lf (rw c.1)) (cnO rw c).1 8
def cnS (rw : Nat → List Int32) (c : Cn) : List Int32 := bl (lf (rw c.1)) (cnO rw c).2.1 (cnO rw c).2.2
def cnK (rw : Nat → List Int32) (c : Cn) : List Int32 × Nat := (cnI rw c, c.2.2)
def inK (rw : Nat → List Int32) (b : Nat) (i : In3) : List Int32 × Nat := (bl (lf (rw b)) i.1 32, leP (lf (rw b)) (i.1 + 32) 4)
def fnd (rw : Nat → List Int32) (U : List Cn) (K : List Int32 × Nat) : Option Cn := U.find? fun c => decide (cnK rw c = K)
def ouS (rw : Nat → List Int32) (b t : Nat) : Nat := sumL (fun o : In3 => leP (lf (rw b)) o.1 8) (txO rw b t).2.2.2.1
/-- a transaction's first j outputs come -/
def adO (rw : Nat → List Int32) (b t : Nat) (U : List Cn) : Nat → List Cn
  | 0 => U
  | j + 1 => (adO rw b t U j).filter (fun c => decide (cnK rw c ≠ cnK rw (b, t, j))) ++ [(b, t, j)]
def spn (rw : Nat → List Int32) (b t : Nat) (U : List Cn) : List (Option Cn) := (txO rw b t).2.1.map fun i => fnd rw U (inK rw b i)
/-- the scripts of an input and of what it spends -/
def fnS (sgB : Nat → List Int32 → List Int32 → Bool) (rw : Nat → List Int32) (b t k : Nat) (c : Cn) : Bool := scrS (sgB (hN (msG (lf (rw b)) (cnS rw c) k (txO rw b t)))) hsF (bl (lf (rw b)) ((txO rw b t).2.1.getD k d3).2.1 ((txO rw b t).2.1.getD k d3).2.2) (cnS rw c)
def unR (hgt : Nat → Nat) (b : Nat) (c : Cn) : Bool := decide (c.2.1 = 0 ∧ hgt b < hgt c.1 + 5)
def e_C : Cn := (0, 0, 0)
/-- what is spent, if all of it is there -/
def spC (rw : Nat → List Int32) (b t : Nat) (U : List Cn) : List Cn := (spn rw b t U).map fun x => x.getD e_C
/-- one transaction but for its scripts: code, what is unspent then, what is left over -/
def stp0 (rw : Nat → List Int32) (hgt : Nat → Nat) (b t : Nat) (U : List Cn) : Nat × List Cn × Nat :=
  if t = 0 then (0, adO rw b t U (txO rw b t).2.2.2.1.length, 0)
  else if none ∈ spn rw b t U then (10, U, 0)
  else if ((spC rw b t U).any (unR hgt b)) = true then (11, U, 0)
  else if sumL (cnV rw) (spC rw b t U) < ouS rw b t then (12, U, 0)
  else (0, adO rw b t (U.filter fun c => decide (c ∉ spC rw b t U)) (txO rw b t).2.2.2.1.length, sumL (cnV rw) (spC rw b t U) - ouS rw b t)
/-- all its scripts hold -/
def scA (sgB : Nat → List Int32 → List Int32 → Bool) (rw : Nat → List Int32) (b t : Nat) (U : List Cn) : Prop := ∀ k, k < (txO rw b t).2.1.length → fnS sgB rw b t k ((spC rw b t U).getD k e_C) = true
def stp (sgB : Nat → List Int32 → List Int32 → Bool) (rw : Nat → List Int32) (hgt : Nat → Nat) (b t : Nat) (U : List Cn) (r : Nat × List Cn × Nat) : Prop := ((stp0 rw hgt b t U).1 = 0 ∧ t ≠ 0 ∧ ¬ scA sgB rw b t U ∧ r.1 = 13) ∨ (((stp0 rw hgt b t U).1 ≠ 0 ∨ t = 0 ∨ scA sgB rw b t U) ∧ r = stp0 rw hgt b t U)
/-- a block's transactions from t on: the code, what is unspent then, what is left over -/
def vlR (sgB : Nat → List Int32 → List Int32 → Bool) (rw : Nat → List Int32) (hgt : Nat → Nat) (b : Nat) : Nat → Nat → List Cn → Nat → Nat × List Cn × Nat → Prop
  | 0, _, U, fee, r => r = (0, U, fee)
  | n + 1, t, U, fee, r => ∃ s, stp sgB rw hgt b t U s ∧ ((s.1 ≠ 0 ∧ r.1 = s.1) ∨ (s.1 = 0 ∧ vlR sgB rw hgt b n (t + 1) s.2.1 (fee + s.2.2) r))
def sbs (h : Nat) : Nat := 5000000000 / 2 ^ (h / 20)
/-- a block upon what is unspent: code, and what is unspent then -/
def vld (sgB : Nat → List Int32 → List Int32 → Bool) (rw : Nat → List Int32) (hgt : Nat → Nat) (b : Nat) (U : List Cn) (w : Nat) (U' : List Cn) : Prop := ∃ r, vlR sgB rw hgt b (TLb rw b).length 0 U 0 r ∧ ((r.1 ≠ 0 ∧ w = r.1) ∨ (r.1 = 0 ∧ U' = r.2.1 ∧ w = if sbs (hgt b) + r.2.2 < ouS rw b 0 then 14 else 0))
set_option maxHeartbeats 400000 in
theorem stp_u {sgB : Nat → List Int32 → List Int32 → Bool} {rw : Nat → List Int32} {hgt : Nat → Nat} {b t : Nat} {U : List Cn} {r r' : Nat × List Cn × Nat} (h : stp sgB rw hgt b t U r) (h' : stp sgB rw hgt b t U r') : r.1 = r'.1 ∧ (r.1 = 0 → r = r') := by
  rcases h with ⟨a1, a2, a3, a4⟩ | ⟨a1, a2⟩ <;> rcases h' with ⟨b1, b2, b3, b4⟩ | ⟨b1, b2⟩
  · exact ⟨a4.trans b4.symm, fun e => by rw [a4] at e; exact absurd e (by decide)⟩
  · rcases b1 with b1 | b1 | b1
    · exact absurd a1 b1
    · exact absurd b1 a2
    · exact absurd b1 a3
  · rcases a1 with a1 | a1 | a1
    · exact absurd b1 a1
    · exact absurd a1 b2
    · exact absurd a1 b3
  · exact ⟨by rw [a2, b2], fun _ => by rw [a2, b2]⟩
set_option maxHeartbeats 400000 in
theorem vlR_u {sgB : Nat → List Int32 → List Int32 → Bool} {rw : Nat → List Int32} {hgt : Nat → Nat} {b : Nat} : ∀ n t U fee r r', vlR sgB rw hgt b n t U fee r → vlR sgB rw hgt b n t U fee r' → r.1 = r'.1 ∧ (r.1 = 0 → r = r')
  | 0, t, U, fee, r, r', h, h' => by
    replace h : r = (0, U, fee) := h
    replace h' : r' = (0, U, fee) := h'
    subst h h'
    exact ⟨rfl, fun _ => rfl⟩
  | n + 1, t, U, fee, r, r', h, h' => by
    obtain ⟨s, h1, h2⟩ := h
    obtain ⟨s', h1', h2'⟩ := h'
    obtain ⟨u1, u2⟩ := stp_u h1 h1'
    rcases h2 with ⟨a1, a2⟩ | ⟨a1, a2⟩ <;> rcases h2' with ⟨b1, b2⟩ | ⟨b1, b2⟩
    · refine ⟨by rw [a2, b2, u1], fun e => absurd (a2 ▸ e) a1⟩
    · exact absurd (u1.trans b1) a1
    · exact absurd (u1.symm.trans a1) b1
    · have := u2 a1
      subst this
      exact vlR_u n _ _ _ _ _ a2 b2
set_option maxHeartbeats 400000 in
theorem vld_u {sgB : Nat → List Int32 → List Int32 → Bool} {rw : Nat → List Int32} {hgt : Nat → Nat} {b : Nat} {U : List Cn} {w w' : Nat} {U1 U2 : List Cn} (h : vld sgB rw hgt b U w U1) (h' : vld sgB rw hgt b U w' U2) : w = w' ∧ (w = 0 → U1 = U2) := by
  obtain ⟨r, h1, h2⟩ := h
  obtain ⟨r', h1', h2'⟩ := h'
  obtain ⟨u1, u2⟩ := vlR_u _ _ _ _ _ _ h1 h1'
  rcases h2 with ⟨a1, a2⟩ | ⟨a1, a2, a3⟩ <;> rcases h2' with ⟨b1, b2⟩ | ⟨b1, b2, b3⟩
  · exact ⟨by rw [a2, b2, u1], fun e => absurd (a2 ▸ e) a1⟩
  · exact absurd (u1.trans b1) a1
  · exact absurd (u1.symm.trans a1) b1
  · have := u2 a1
    subst this
    exact ⟨by rw [a3, b3], fun _ => by rw [a2, b2]⟩
/-- the way from the first block to b -/
def wyL (par : Nat → Nat) : Nat → Nat → List Nat
  | 0, _ => []
  | f + 1, b => if b = 0 then [] else wyL par f (par b) ++ [b]
/-- along a way: the code, the block that fails, what is unspent at the end -/
def evW (sgB : Nat → List Int32 → List Int32 → Bool) (rw : Nat → List Int32) (hgt : Nat → Nat) : List Nat → List Cn → Nat → Nat → List Cn → Prop
  | [], U, w, _, U' => w = 0 ∧ U' = U
  | b :: bs, U, w, x, U' => ∃ v V, vld sgB rw hgt b U v V ∧ ((v ≠ 0 ∧ w = v ∧ x = b) ∨ (v = 0 ∧ evW sgB rw hgt bs V w x U'))
set_option maxHeartbeats 400000 in
theorem evW_u {sgB : Nat → List Int32 → List Int32 → Bool} {rw : Nat → List Int32} {hgt : Nat → Nat} : ∀ bs U w w' x x' U1 U2, evW sgB rw hgt bs U w x U1 → evW sgB rw hgt bs U w' x' U2 → w = w' ∧ (w ≠ 0 → x = x') ∧ (w = 0 → U1 = U2)
  | [], U, w, w', x, x', U1, U2, h, h' => by
    obtain ⟨h1, h2⟩ := h
    obtain ⟨h1', h2'⟩ := h'
    exact ⟨h1.trans h1'.symm, fun e => absurd h1 e, fun _ => h2.trans h2'.symm⟩
  | b :: bs, U, w, w', x, x', U1, U2, h, h' => by
    obtain ⟨v, V, h1, h2⟩ := h
    obtain ⟨v', V', h1', h2'⟩ := h'
    obtain ⟨u1, u2⟩ := vld_u h1 h1'
    rcases h2 with ⟨a1, a2, a3⟩ | ⟨a1, a2⟩ <;> rcases h2' with ⟨b1, b2, b3⟩ | ⟨b1, b2⟩
    · exact ⟨by rw [a2, b2, u1], fun _ => a3.trans b3.symm, fun e => absurd (a2 ▸ e) a1⟩
    · exact absurd (u1.trans b1) a1
    · exact absurd (u1.symm.trans a1) b1
    · have := u2 a1
      subst this
      exact evW_u bs _ _ _ _ _ _ _ a2 b2
set_option maxHeartbeats 400000 in
/-- a way goes on -/
theorem evW_ap {sgB : Nat → List Int32 → List Int32 → Bool} {rw : Nat → List Int32} {hgt : Nat → Nat} : ∀ bs cs U w x V U' y, evW sgB rw hgt bs U 0 y V → evW sgB rw hgt cs V w x U' → evW sgB rw hgt (bs ++ cs) U w x U'
  | [], cs, U, w, x, V, U', y, h, h' => by
    obtain ⟨-, h2⟩ := h
    subst h2
    exact h'
  | b :: bs, cs, U, w, x, V, U', y, h, h' => by
    obtain ⟨v, W, h1, h2⟩ := h
    rcases h2 with ⟨a1, a2, a3⟩ | ⟨a1, a2⟩
    · exact absurd a2.symm a1
    · exact ⟨v, W, h1, Or.inr ⟨a1, evW_ap bs cs W w x V U' y a2 h'⟩⟩
def upB (f : Nat → Bool) (k : Nat) (v : Bool) (j : Nat) : Bool := if j = k then v else f j
/-- blocks behind a bad one are bad -/
def spL (par : Nat → Nat) : Nat → Nat → (Nat → Bool) → Nat → Bool
  | 0, _, f => f
  | n + 1, b, f => spL par n (b + 1) (if f (par b) = true then upB f b true else f)
