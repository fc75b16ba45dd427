-- the keeper without its arrays: what holds of it always
def upW {α : Type} (f : Nat → α) (k : Nat) (v : α) (j : Nat) : α := if j = k then v else f j
set_option maxHeartbeats 1000000 in
theorem upW_s {α : Type} {f : Nat → α} {k : Nat} {v : α} : upW f k v k = v := if_pos rfl
set_option maxHeartbeats 1000000 in
theorem upW_n {α : Type} {f : Nat → α} {k j : Nat} {v : α} (h : j ≠ k) : upW f k v j = f j := if_neg h
def bkA (rw : Nat → List Int32) (hgt tim : Nat → Nat) (nb : Nat) : Prop := rw 0 = [] ∧ ∀ b, 0 < b → b < nb → bkS rw hgt tim b
set_option maxHeartbeats 1000000 in
theorem TLb_0 {rw : Nat → List Int32} (h : rw 0 = []) : TLb rw 0 = [] := by
  unfold TLb
  rw [h]
  rfl
set_option maxHeartbeats 1000000 in
theorem bk_n {rw : Nat → List Int32} {hgt tim : Nat → Nat} {b : Nat} (h : bkS rw hgt tim b) : 81 + 10 * (TLb rw b).length + 41 * nIn (TLb rw b) + 9 * nOut (TLb rw b) ≤ (rw b).length := by
  obtain ⟨E80, a0, ha0, ha1, hTB⟩ := pBl_B h.1
  have := txB_n _ _ hTB
  omega
set_option maxHeartbeats 1000000 in
theorem cnt_n {rw : Nat → List Int32} {hgt tim : Nat → Nat} {nb : Nat} (h : bkA rw hgt tim nb) : ∀ n, n ≤ nb → 10 * tBr rw n + 41 * iBr rw n + 9 * oBr rw n ≤ sBr rw n
  | 0, _ => Nat.le_refl _
  | n + 1, hn => by
    have ih := cnt_n h n (by omega)
    show 10 * (tBr rw n + (TLb rw n).length) + 41 * (iBr rw n + nIn (TLb rw n)) + 9 * (oBr rw n + nOut (TLb rw n)) ≤ sBr rw n + (rw n).length
    by_cases q : n = 0
    · have e : TLb rw n = [] := by rw [q]; exact TLb_0 h.1
      rw [e]
      show 10 * (tBr rw n + 0) + 41 * (iBr rw n + 0) + 9 * (oBr rw n + 0) ≤ sBr rw n + (rw n).length
      omega
    · have := bk_n (h.2 n (by omega) (by omega))
      omega
set_option maxHeartbeats 1000000 in
theorem nIn_m2 (TL : List Tx5) {t t' : Nat} (h : t ≤ t') : nIn (TL.take t) ≤ nIn (TL.take t') := by
  have := nIn_mo (TL.take t') t
  rw [List.take_take, Nat.min_eq_left h] at this
  exact this
set_option maxHeartbeats 1000000 in
theorem nOut_m2 (TL : List Tx5) {t t' : Nat} (h : t ≤ t') : nOut (TL.take t) ≤ nOut (TL.take t') := by
  have := nOut_mo (TL.take t') t
  rw [List.take_take, Nat.min_eq_left h] at this
  exact this
set_option maxHeartbeats 1000000 in
theorem iG_s {rw : Nat → List Int32} {b t : Nat} (ht : t < (TLb rw b).length) : iGr rw b (t + 1) = iGr rw b t + (txO rw b t).2.1.length := by
  unfold iGr
  rw [nIn_tk _ _ ht, Nat.add_assoc]
  rfl
set_option maxHeartbeats 1000000 in
theorem oG_s {rw : Nat → List Int32} {b t : Nat} (ht : t < (TLb rw b).length) : oGr rw b (t + 1) = oGr rw b t + (txO rw b t).2.2.2.1.length := by
  unfold oGr
  rw [nOut_tk _ _ ht, Nat.add_assoc]
  rfl
set_option maxHeartbeats 1000000 in
theorem iG_e {rw : Nat → List Int32} {b : Nat} (t : Nat) : iGr rw b t ≤ iBr rw (b + 1) := Nat.add_le_add_left (nIn_mo _ t) _
set_option maxHeartbeats 1000000 in
theorem oG_e {rw : Nat → List Int32} {b : Nat} (t : Nat) : oGr rw b t ≤ oBr rw (b + 1) := Nat.add_le_add_left (nOut_mo _ t) _
set_option maxHeartbeats 1000000 in
theorem iB_mo {rw : Nat → List Int32} {b b' : Nat} (h : b < b') : iBr rw (b + 1) ≤ iBr rw b' := sumB_le (f := fun k => nIn (TLb rw k)) h
set_option maxHeartbeats 1000000 in
theorem oB_mo {rw : Nat → List Int32} {b b' : Nat} (h : b < b') : oBr rw (b + 1) ≤ oBr rw b' := sumB_le (f := fun k => nOut (TLb rw k)) h
set_option maxHeartbeats 1000000 in
theorem tB_mo {rw : Nat → List Int32} {b b' : Nat} (h : b < b') : tBr rw b + (TLb rw b).length ≤ tBr rw b' := sumB_le (f := fun k => (TLb rw k).length) h
set_option maxHeartbeats 1000000 in
theorem sB_mo {rw : Nat → List Int32} {b b' : Nat} (h : b < b') : sBr rw b + (rw b).length ≤ sBr rw b' := sumB_le (f := fun k => (rw k).length) h
set_option maxHeartbeats 1000000 in
theorem iIj_r (rw : Nat → List Int32) (nb : Nat) : iIj rw (Vdr rw nb) (iGr rw) := by
  have L : ∀ b t k b' t' k', t < (TLb rw b).length → k < (txO rw b t).2.1.length → b < b' → iGr rw b t + k < iGr rw b' t' + k' := fun b t k b' t' k' h1 h2 h3 => by
    have a1 := iG_s h1
    have a2 := iG_e (rw := rw) (b := b) (t + 1)
    have a3 := iB_mo (rw := rw) h3
    have a4 : iBr rw b' ≤ iGr rw b' t' := Nat.le_add_right _ _
    omega
  have M : ∀ b t k t' k', t < (TLb rw b).length → k < (txO rw b t).2.1.length → t < t' → iGr rw b t + k < iGr rw b t' + k' := fun b t k t' k' h1 h2 h3 => by
    have a1 := iG_s h1
    have a2 : iGr rw b (t + 1) ≤ iGr rw b t' := Nat.add_le_add_left (nIn_m2 _ h3) _
    omega
  intro b t k b' t' k' v v' hk hk' e
  rcases Nat.lt_trichotomy b b' with q | q | q
  · exact absurd e (Nat.ne_of_lt (L b t k b' t' k' v.2 hk q))
  · subst q
    rcases Nat.lt_trichotomy t t' with r | r | r
    · exact absurd e (Nat.ne_of_lt (M b t k t' k' v.2 hk r))
    · subst r
      exact ⟨rfl, rfl, Nat.add_left_cancel e⟩
    · exact absurd e.symm (Nat.ne_of_lt (M b t' k' t k v'.2 hk' r))
  · exact absurd e.symm (Nat.ne_of_lt (L b' t' k' b t k v'.2 hk' q))
/-- work of a block and of those before it -/
def wrk (par : Nat → Nat) (bit : Nat → Int32) (b : Nat) : Nat := wkX (bit 0) + sumL (fun k => wkX (bit k)) (wy par b)
set_option maxHeartbeats 1000000 in
theorem wrk_s {par : Nat → Nat} {bit : Nat → Int32} (hp : ∀ k, 0 < k → par k < k) {b : Nat} (hb : 0 < b) : wrk par bit b = wkX (bit b) + wrk par bit (par b) := by
  unfold wrk
  rw [wy_s hp hb, sumL_ap]
  show _ + (_ + (wkX (bit b) + 0)) = _
  omega
set_option maxHeartbeats 1000000 in
theorem wkX_le {x : Int32} {k : Nat} (h : gT x k) (hk : k ≤ 7) : wkX x ≤ 2 ^ 23 := by
  obtain ⟨e, m, g1, g2⟩ := h
  rw [wkX_e g1]
  obtain ⟨X, hX⟩ : ∃ X, X = 2 ^ 256 := ⟨_, rfl⟩
  have := (Wk_le hX g2 hk).2
  unfold Wk
  rw [← hX]
  exact this
/-- the keeper's state without its arrays -/
def aI (sgB : Nat → List Int32 → List Int32 → Bool) (nb : Nat) (par hgt tim : Nat → Nat) (bit : Nat → Int32) (bad : Nat → Bool) (rw : Nat → List Int32) (tip : Nat) (U : List Cn) : Prop := (1 ≤ nb ∧ nb ≤ 58) ∧ bkA rw hgt tim nb ∧ (∀ k, 0 < k → par k < k) ∧ (hgt 0 = 0 ∧ ∀ k, 0 < k → k < nb → hgt k = hgt (par k) + 1) ∧ (tim 0 = 1000000 ∧ bit 0 = 545259519 ∧ ∀ k, 0 < k → k < nb → tim k = rTm (rw k) ∧ bit k = rBi (rw k) ∧ gT (bit k) (hgt k / 8)) ∧ (∀ k k', k < nb → k' < nb → bl (bIf rw k) 0 32 = bl (bIf rw k') 0 32 → k = k') ∧ sBr rw nb ≤ 17000 ∧ (tip < nb ∧ ∃ x, evW sgB rw hgt (wy par tip) [] 0 x U) ∧ bad 0 = false
set_option maxHeartbeats 1000000 in
theorem aI_h {sgB : Nat → List Int32 → List Int32 → Bool} {nb : Nat} {par hgt tim : Nat → Nat} {bit : Nat → Int32} {bad : Nat → Bool} {rw : Nat → List Int32} {tip : Nat} {U : List Cn} (h : aI sgB nb par hgt tim bit bad rw tip U) : ∀ k, k < nb → hgt k ≤ k := by
  obtain ⟨-, -, h3, h4, -⟩ := h
  intro k
  induction k using Nat.strongRecOn with
  | _ k ih =>
    intro hk
    by_cases q : k = 0
    · rw [q, h4.1]; exact Nat.le_refl _
    · have a := h3 k (by omega)
      have := ih (par k) a (by omega)
      rw [h4.2 k (by omega) hk]
      omega
set_option maxHeartbeats 1000000 in
theorem aI_g {sgB : Nat → List Int32 → List Int32 → Bool} {nb : Nat} {par hgt tim : Nat → Nat} {bit : Nat → Int32} {bad : Nat → Bool} {rw : Nat → List Int32} {tip : Nat} {U : List Cn} (h : aI sgB nb par hgt tim bit bad rw tip U) {k : Nat} (hk : k < nb) : gT (bit k) (hgt k / 8) ∧ tim k < 2 ^ 32 := by
  obtain ⟨-, -, -, h4, ⟨t0, b0, h5⟩, -⟩ := h
  by_cases q : k = 0
  · rw [q, h4.1, t0, b0]; exact ⟨gT_0, by decide⟩
  · obtain ⟨a, b, c⟩ := h5 k (by omega) hk
    exact ⟨c, by rw [a]; exact leP_lt _ _ 4⟩
set_option maxHeartbeats 1000000 in
theorem aI_w {sgB : Nat → List Int32 → List Int32 → Bool} {nb : Nat} {par hgt tim : Nat → Nat} {bit : Nat → Int32} {bad : Nat → Bool} {rw : Nat → List Int32} {tip : Nat} {U : List Cn} (h : aI sgB nb par hgt tim bit bad rw tip U) : ∀ k, k < nb → wrk par bit k ≤ (k + 1) * 2 ^ 23 := by
  intro k
  induction k using Nat.strongRecOn with
  | _ k ih =>
    intro hk
    have hg := (aI_g h hk).1
    have h58 := h.1.2
    have hh := aI_h h k hk
    have hw := wkX_le hg (by omega)
    by_cases q : k = 0
    · subst q
      unfold wrk
      rw [wy_0]
      show wkX (bit 0) + 0 ≤ _
      omega
    · have a := h.2.2.1 k (by omega)
      have := ih (par k) a (by omega)
      rw [wrk_s h.2.2.1 (by omega)]
      have c : (par k + 1) * 2 ^ 23 ≤ k * 2 ^ 23 := Nat.mul_le_mul_right _ a
      rw [Nat.add_mul]
      omega
