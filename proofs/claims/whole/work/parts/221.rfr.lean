-- why a row is refused
def bIf (rw : Nat → List Int32) (k : Nat) : Nat → Int32 := if k = 0 then fun _ => 0 else dbl (lf (rw k)) 80
def wkX (x : Int32) : Nat := Wk (U x / 2 ^ 24) (U x % 2 ^ 24)
def rTL (r : List Int32) : List Tx5 := (pBl (lf r) r.length).getD []
/-- the transactions' hashes of a row -/
def rId (r : List Int32) (k : Nat) : Nat → Int32 := dbl (fun i => lf r (((rTL r).getD k d5).1 + i)) (((rTL r).getD k d5).2.2.2.2 - ((rTL r).getD k d5).1)
def rTm (r : List Int32) : Nat := leP (lf r) 68 4
def rBi (r : List Int32) : Int32 := nI (leP (lf r) 72 4)
def iPr (c A B : Prop) : Prop := (c ∧ A) ∨ (¬ c ∧ B)
set_option maxHeartbeats 400000 in
theorem iPr_t {c A B : Prop} (h : c) (a : A) : iPr c A B := Or.inl ⟨h, a⟩
set_option maxHeartbeats 400000 in
theorem iPr_f {c A B : Prop} (h : ¬ c) (b : B) : iPr c A B := Or.inr ⟨h, b⟩
/-- the checks behind the block before -/
def rf2 (par hgt tim : Nat → Nat) (bit : Nat → Int32) (bad : Nat → Prop) (r : List Int32) (p c : Nat) : Prop := iPr (bad p) (c = 4) (iPr (¬ wnQ par hgt tim bit p (rBi r)) (c = 5) (iPr (tgB (rBi r) < leP (dbl (lf r) 80) 0 32) (c = 6) (iPr (rTm r ≤ med (tls par tim 11 p)) (c = 7) (iPr (¬ rtQ (bl (lf r) 36 32) 10 (rTL r).length (rId r)) (c = 8) (iPr (¬ sndS ((rTL r).map (txV (lf r))) (hgt p + 1) (rTm r)) (c = 9) (c = 0))))))
def rfR (rw : Nat → List Int32) (nb : Nat) (par hgt tim : Nat → Nat) (bit : Nat → Int32) (bad : Nat → Prop) (r : List Int32) (c p : Nat) : Prop := iPr (pBl (lf r) r.length = none) (c = 1) (iPr (∃ k, k < nb ∧ bl (bIf rw k) 0 32 = bl (dbl (lf r) 80) 0 32) (c = 2) (iPr (∀ k, k < nb → bl (bIf rw k) 0 32 ≠ bl (lf r) 4 32) (c = 3) (p < nb ∧ bl (bIf rw p) 0 32 = bl (lf r) 4 32 ∧ rf2 par hgt tim bit bad r p c)))
set_option maxHeartbeats 400000 in
theorem iPr_u {c A B A' B' Q : Prop} (h : iPr c A B) (h' : iPr c A' B') (h1 : A → A' → Q) (h2 : B → B' → Q) : Q := by
  rcases h with ⟨x, a⟩ | ⟨x, b⟩ <;> rcases h' with ⟨y, a'⟩ | ⟨y, b'⟩
  · exact h1 a a'
  · exact absurd x y
  · exact absurd y x
  · exact h2 b b'
set_option maxHeartbeats 400000 in
theorem rf2_u {par hgt tim : Nat → Nat} {bit : Nat → Int32} {bad : Nat → Prop} {r : List Int32} {p c c' : Nat} (h : rf2 par hgt tim bit bad r p c) (h' : rf2 par hgt tim bit bad r p c') : c = c' :=
  iPr_u h h' (fun a b => a.trans b.symm) fun h h' => iPr_u h h' (fun a b => a.trans b.symm) fun h h' => iPr_u h h' (fun a b => a.trans b.symm) fun h h' => iPr_u h h' (fun a b => a.trans b.symm) fun h h' => iPr_u h h' (fun a b => a.trans b.symm) fun h h' => iPr_u h h' (fun a b => a.trans b.symm) fun a b => a.trans b.symm
set_option maxHeartbeats 400000 in
theorem rfR_u {rw : Nat → List Int32} {nb : Nat} {par hgt tim : Nat → Nat} {bit : Nat → Int32} {bad : Nat → Prop} {r : List Int32} {c p c' p' : Nat} (hd : ∀ k k', k < nb → k' < nb → bl (bIf rw k) 0 32 = bl (bIf rw k') 0 32 → k = k') (h : rfR rw nb par hgt tim bit bad r c p) (h' : rfR rw nb par hgt tim bit bad r c' p') : c = c' ∧ (c = 0 → p = p') :=
  iPr_u h h' (fun a b => ⟨a.trans b.symm, fun q => absurd (a.symm.trans q) (by decide)⟩) fun h h' => iPr_u h h' (fun a b => ⟨a.trans b.symm, fun q => absurd (a.symm.trans q) (by decide)⟩) fun h h' => iPr_u h h' (fun a b => ⟨a.trans b.symm, fun q => absurd (a.symm.trans q) (by decide)⟩) fun ⟨a1, a2, a3⟩ ⟨b1, b2, b3⟩ => by
    have e := hd p p' a1 b1 (a2.trans b2.symm)
    subst e
    exact ⟨rf2_u a3 b3, fun _ => rfl⟩
set_option maxHeartbeats 400000 in
/-- what a taken block keeps -/
theorem rfR_0 {rw : Nat → List Int32} {nb : Nat} {par hgt tim : Nat → Nat} {bit : Nat → Int32} {bad : Nat → Prop} {r : List Int32} {p : Nat} (h : rfR rw nb par hgt tim bit bad r 0 p) : (∃ TL, pBl (lf r) r.length = some TL) ∧ (∀ k, k < nb → bl (bIf rw k) 0 32 ≠ bl (dbl (lf r) 80) 0 32) ∧ (p < nb ∧ bl (bIf rw p) 0 32 = bl (lf r) 4 32) ∧ ¬ bad p ∧ wnQ par hgt tim bit p (rBi r) ∧ sndS ((rTL r).map (txV (lf r))) (hgt p + 1) (rTm r) := by
  rcases h with ⟨-, h⟩ | ⟨h1, h⟩
  · exact absurd h (by decide)
  rcases h with ⟨-, h⟩ | ⟨h2, h⟩
  · exact absurd h (by decide)
  rcases h with ⟨-, h⟩ | ⟨-, h3, h4, h⟩
  · exact absurd h (by decide)
  rcases h with ⟨-, h⟩ | ⟨h5, h⟩
  · exact absurd h (by decide)
  rcases h with ⟨-, h⟩ | ⟨h6, h⟩
  · exact absurd h (by decide)
  rcases h with ⟨-, h⟩ | ⟨-, h⟩
  · exact absurd h (by decide)
  rcases h with ⟨-, h⟩ | ⟨-, h⟩
  · exact absurd h (by decide)
  rcases h with ⟨-, h⟩ | ⟨-, h⟩
  · exact absurd h (by decide)
  rcases h with ⟨-, h⟩ | ⟨h7, h⟩
  · exact absurd h (by decide)
  refine ⟨?_, fun k hk e => h2 ⟨k, hk, e⟩, ⟨h3, h4⟩, h5, Classical.byContradiction h6, Classical.byContradiction h7⟩
  cases e : pBl (lf r) r.length with
  | none => exact absurd e h1
  | some TL => exact ⟨TL, rfl⟩
set_option maxHeartbeats 400000 in
theorem leP_a (p : Nat → Int32) (o m : Nat) : ∀ n, leP p o (m + n) = leP p o m + leP p (o + m) n * 2 ^ (8 * m)
  | 0 => by show leP p o m = leP p o m + 0 * _; rw [Nat.zero_mul, Nat.add_zero]
  | n + 1 => by
    show leP p o (m + n) + By (p (o + (m + n))) * 2 ^ (8 * (m + n)) = leP p o m + (leP p (o + m) n + By (p (o + m + n)) * 2 ^ (8 * n)) * 2 ^ (8 * m)
    rw [leP_a p o m n, Nat.add_mul, Nat.add_assoc o m n, Nat.mul_add 8 m n, Nat.pow_add, Nat.mul_comm (2 ^ (8 * m)) (2 ^ (8 * n)), ← Nat.mul_assoc, Nat.add_assoc]
set_option maxHeartbeats 400000 in
theorem V_le {h p : Nat → Int32} {o : Nat} : ∀ k, (∀ i, i < k → h i = nI (leP p (o + 4 * i) 4)) → V h k = leP p o (4 * k)
  | 0, _ => rfl
  | k + 1, hh => by
    rw [V_s, V_le k (fun i hi => hh i (by omega)), show 4 * (k + 1) = 4 * k + 4 from by omega, leP_a, hh k (by omega), U_nI (leP_lt _ _ 4), show 8 * (4 * k) = 32 * k from by omega]
set_option maxHeartbeats 400000 in
theorem wn_gT {par hgt tim : Nat → Nat} {bit : Nat → Int32} {p : Nat} {y : Int32} (h : wnQ par hgt tim bit p y) (hb : gT (bit p) (hgt p / 8)) (hh : hgt p ≤ 57) : gT y ((hgt p + 1) / 8) := by
  rcases h with ⟨h1, h2⟩ | ⟨h1, h2⟩
  · rw [h2, show (hgt p + 1) / 8 = hgt p / 8 from by omega]
    exact hb
  · obtain ⟨e, m, g1, g2⟩ := hb
    rw [tgB_e g1] at h2
    rw [show (hgt p + 1) / 8 = hgt p / 8 + 1 from by omega]
    refine gT_next g1 g2 (by omega) ?_ h2
    unfold tkT; omega
set_option maxHeartbeats 400000 in
theorem wkX_e {x : Int32} {e m : Nat} (h : gb x e m) : wkX x = Wk e m := by
  have hm := h.2.2.2.2
  have he := h.2.2.1
  have : U x = e * 2 ^ 24 + m := by rw [h.1, U_nI (by omega)]
  unfold wkX
  rw [this, show (e * 2 ^ 24 + m) / 2 ^ 24 = e from by omega, show (e * 2 ^ 24 + m) % 2 ^ 24 = m from by omega]
set_option maxHeartbeats 400000 in
theorem Wk_le {X e m k : Nat} (hX : X = 2 ^ 256) (hT : 2 ^ (254 - 3 * k) ≤ Tg e m) (hk : k ≤ 7) : Tg e m = Tg e m ∧ X / (Tg e m + 1) ≤ 2 ^ 23 := by
  refine ⟨rfl, ?_⟩
  have h1 : 2 ^ 233 ≤ Tg e m := Nat.le_trans (Nat.pow_le_pow_right (by decide) (by omega)) hT
  generalize Tg e m = T at *
  have h2 : X = 2 ^ 23 * 2 ^ 233 := by rw [hX, ← Nat.pow_add]
  refine Nat.div_le_of_le_mul ?_
  rw [h2, Nat.mul_comm (T + 1)]
  exact Nat.mul_le_mul_left _ (Nat.le_succ_of_le h1)
set_option maxHeartbeats 400000 in
theorem Wk_q {X T : Nat} (hT : T + 1 ≤ X) : (X - 1 - T) / (T + 1) + 1 = X / (T + 1) := by
  have h : X = (X - 1 - T) + (T + 1) := by omega
  have := Nat.add_div_right (X - 1 - T) (Nat.succ_pos T)
  rw [show (X - 1 - T) + T.succ = X from by omega] at this
  exact this.symm
