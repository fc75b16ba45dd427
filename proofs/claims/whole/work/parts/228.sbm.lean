-- a row is submitted, without the arrays
abbrev Ab : Type := Nat × (Nat → Nat) × (Nat → Nat) × (Nat → Nat) × (Nat → Int32) × (Nat → Bool) × (Nat → List Int32) × Nat × List Cn
def aIS (sgB : Nat → List Int32 → List Int32 → Bool) (S : Ab) : Prop := aI sgB S.1 S.2.1 S.2.2.1 S.2.2.2.1 S.2.2.2.2.1 S.2.2.2.2.2.1 S.2.2.2.2.2.2.1 S.2.2.2.2.2.2.2.1 S.2.2.2.2.2.2.2.2
/-- a block comes behind block p -/
def exA (S : Ab) (p : Nat) (r : List Int32) : Ab := (S.1 + 1, upW S.2.1 S.1 p, upW S.2.2.1 S.1 (S.2.2.1 p + 1), upW S.2.2.2.1 S.1 (rTm r), upW S.2.2.2.2.1 S.1 (rBi r), upW S.2.2.2.2.2.1 S.1 false, upW S.2.2.2.2.2.2.1 S.1 r, S.2.2.2.2.2.2.2.1, S.2.2.2.2.2.2.2.2)
set_option maxHeartbeats 1000000 in
theorem bIf_c {rw rw' : Nat → List Int32} {k : Nat} (h : rw' k = rw k) : bIf rw' k = bIf rw k := by
  unfold bIf; rw [h]
set_option maxHeartbeats 1000000 in
theorem bkS_c {rw rw' : Nat → List Int32} {hgt tim hgt' tim' : Nat → Nat} {b : Nat} (h : bkS rw hgt tim b) (h1 : rw' b = rw b) (h2 : hgt' b = hgt b) (h3 : tim' b = tim b) : bkS rw' hgt' tim' b := by
  have e : TLb rw' b = TLb rw b := by unfold TLb; rw [h1]
  unfold bkS
  rw [e, h1, h2, h3]
  exact h
set_option maxHeartbeats 1000000 in
theorem aI_ext {sgB : Nat → List Int32 → List Int32 → Bool} {nb : Nat} {par hgt tim : Nat → Nat} {bit : Nat → Int32} {bad : Nat → Bool} {rw : Nat → List Int32} {tip : Nat} {U : List Cn} (h : aI sgB nb par hgt tim bit bad rw tip U) (hn : nb ≤ 57) {r : List Int32} {p : Nat} (hr : rfR rw nb par hgt tim bit (fun k => bad k = true) r 0 p) (hf : ftB (lf r)) (hl : r.length ≤ 3000) (hs : sBr rw nb + r.length ≤ 17000) : aI sgB (nb + 1) (upW par nb p) (upW hgt nb (hgt p + 1)) (upW tim nb (rTm r)) (upW bit nb (rBi r)) (upW bad nb false) (upW rw nb r) tip U := by
  have hh := aI_h h
  have hg := fun k => aI_g h (k := k)
  obtain ⟨⟨n1, n2⟩, h2, h3, h4, h5, h6, h7, ⟨h8, x, h9⟩, h10⟩ := h
  obtain ⟨⟨TL, r1⟩, r2, ⟨r3, r4⟩, r5, r6, r7⟩ := rfR_0 hr
  have ag : agr nb rw hgt (upW rw nb r) (upW hgt nb (hgt p + 1)) := fun b hb => ⟨upW_n (by omega), upW_n (by omega)⟩
  have hp' : ∀ k, 0 < k → upW par nb p k < k := fun k hk => by
    by_cases q : k = nb
    · rw [q, upW_s]; exact r3
    · rw [upW_n q]; exact h3 k hk
  have hwy : wy (upW par nb p) tip = wy par tip := ag_wy (nb := nb) (fun k hk hk' => ⟨h3 k hk, upW_n (by omega)⟩) h8
  have hTL : TLb (upW rw nb r) nb = rTL r := by unfold TLb rTL; rw [upW_s]
  have hpp := hh p r3
  refine ⟨⟨by omega, by omega⟩, ⟨?_, fun b hb hb' => ?_⟩, hp', ⟨?_, fun k hk hk' => ?_⟩, ⟨?_, ?_, fun k hk hk' => ?_⟩, fun k k' hk hk' e => ?_, ?_, ⟨by omega, x, ?_⟩, ?_⟩
  · rw [upW_n (by omega)]; exact h2.1
  · by_cases q : b = nb
    · subst q
      unfold bkS
      rw [hTL, upW_s, upW_s, upW_s]
      refine ⟨?_, hl, hf, r7⟩
      unfold rTL
      rw [r1]; rfl
    · exact bkS_c (h2.2 b hb (by omega)) (upW_n q) (upW_n q) (upW_n q)
  · rw [upW_n (by omega)]; exact h4.1
  · by_cases q : k = nb
    · subst q
      rw [upW_s, upW_s, upW_n (by omega)]
    · have := h3 k hk
      rw [upW_n q, upW_n (k := nb) (v := p) q, upW_n (by omega)]
      exact h4.2 k hk (by omega)
  · rw [upW_n (by omega)]; exact h5.1
  · rw [upW_n (by omega)]; exact h5.2.1
  · by_cases q : k = nb
    · subst q
      rw [upW_s, upW_s, upW_s, upW_s]
      exact ⟨rfl, rfl, wn_gT r6 (hg p r3).1 (by omega)⟩
    · rw [upW_n q, upW_n q, upW_n q, upW_n q]
      exact h5.2.2 k hk (by omega)
  · have eN : bIf (upW rw nb r) nb = dbl (lf r) 80 := by unfold bIf; rw [if_neg (by omega), upW_s]
    by_cases q : k = nb <;> by_cases q' : k' = nb
    · rw [q, q']
    · subst q
      rw [eN, bIf_c (rw := rw) (rw' := upW rw k r) (upW_n q')] at e
      exact absurd e.symm (r2 k' (by omega))
    · subst q'
      rw [eN, bIf_c (rw := rw) (rw' := upW rw k' r) (upW_n q)] at e
      exact absurd e (r2 k (by omega))
    · rw [bIf_c (rw := rw) (rw' := upW rw nb r) (upW_n q), bIf_c (rw := rw) (rw' := upW rw nb r) (upW_n q')] at e
      exact h6 k k' (by omega) (by omega) e
  · show sBr (upW rw nb r) nb + (upW rw nb r nb).length ≤ 17000
    rw [upW_s]
    have : sBr (upW rw nb r) nb = sBr rw nb := sumB_cg nb fun b hb => by rw [upW_n (by omega)]
    rw [this]; exact hs
  · rw [hwy]
    exact (ag_evW ag _ _ _ _ _ (fun b hb => by have := (wy_mem h3 _ b hb).2; omega) (fun c hc => absurd hc List.not_mem_nil) h9).1
  · rw [upW_n (by omega)]; exact h10
/-- the new block's work and branch -/
def sb2 (sgB : Nat → List Int32 → List Int32 → Bool) (S : Ab) (n w : Nat) (S' : Ab) : Prop := (wrk S.2.1 S.2.2.2.2.1 n ≤ wrk S.2.1 S.2.2.2.2.1 S.2.2.2.2.2.2.2.1 ∧ w = 1 ∧ S' = S) ∨ (wrk S.2.1 S.2.2.2.2.1 S.2.2.2.2.2.2.2.1 < wrk S.2.1 S.2.2.2.2.1 n ∧ ∃ v x U', evW sgB S.2.2.2.2.2.2.1 S.2.2.1 (wy S.2.1 n) [] v x U' ∧ w = v ∧ ((v = 0 ∧ S' = (S.1, S.2.1, S.2.2.1, S.2.2.2.1, S.2.2.2.2.1, S.2.2.2.2.2.1, S.2.2.2.2.2.2.1, n, U')) ∨ (v ≠ 0 ∧ S' = (S.1, S.2.1, S.2.2.1, S.2.2.2.1, S.2.2.2.2.1, spL S.2.1 (S.1 - 1) 1 (upB S.2.2.2.2.2.1 x true), S.2.2.2.2.2.2.1, S.2.2.2.2.2.2.2.1, S.2.2.2.2.2.2.2.2))))
def sbR (sgB : Nat → List Int32 → List Int32 → Bool) (S : Ab) (r : List Int32) (w : Nat) (S' : Ab) : Prop := ∃ c p, rfR S.2.2.2.2.2.2.1 S.1 S.2.1 S.2.2.1 S.2.2.2.1 S.2.2.2.2.1 (fun k => S.2.2.2.2.2.1 k = true) r c p ∧ ((c ≠ 0 ∧ w = c ∧ S' = S) ∨ (c = 0 ∧ sb2 sgB (exA S p r) S.1 w S'))
set_option maxHeartbeats 1000000 in
theorem sb2_u {sgB : Nat → List Int32 → List Int32 → Bool} {S : Ab} {n w w' : Nat} {S1 S2 : Ab} (h : sb2 sgB S n w S1) (h' : sb2 sgB S n w' S2) : w = w' ∧ S1 = S2 := by
  rcases h with ⟨a1, a2, a3⟩ | ⟨a1, v, x, U', a2, a3, a4⟩ <;> rcases h' with ⟨b1, b2, b3⟩ | ⟨b1, v', x', U2, b2, b3, b4⟩
  · exact ⟨a2.trans b2.symm, a3.trans b3.symm⟩
  · exact absurd a1 (Nat.not_le_of_lt b1)
  · exact absurd b1 (Nat.not_le_of_lt a1)
  · obtain ⟨u1, u2, u3⟩ := evW_u _ _ _ _ _ _ _ _ a2 b2
    refine ⟨a3.trans (u1.trans b3.symm), ?_⟩
    rcases a4 with ⟨p1, p2⟩ | ⟨p1, p2⟩ <;> rcases b4 with ⟨q1, q2⟩ | ⟨q1, q2⟩
    · rw [p2, q2, u3 p1]
    · exact absurd (u1.symm.trans p1) q1
    · exact absurd (u1.trans q1) p1
    · rw [p2, q2, u2 p1]
set_option maxHeartbeats 1000000 in
theorem sbR_u {sgB : Nat → List Int32 → List Int32 → Bool} {S : Ab} (hI : aIS sgB S) {r : List Int32} {w w' : Nat} {S1 S2 : Ab} (h : sbR sgB S r w S1) (h' : sbR sgB S r w' S2) : w = w' ∧ S1 = S2 := by
  obtain ⟨c, p, h1, h2⟩ := h
  obtain ⟨c', p', h1', h2'⟩ := h'
  obtain ⟨u1, u2⟩ := rfR_u hI.2.2.2.2.2.1 h1 h1'
  rcases h2 with ⟨a1, a2, a3⟩ | ⟨a1, a2⟩ <;> rcases h2' with ⟨b1, b2, b3⟩ | ⟨b1, b2⟩
  · exact ⟨a2.trans (u1.trans b2.symm), a3.trans b3.symm⟩
  · exact absurd (u1.trans b1) a1
  · exact absurd (u1.symm.trans a1) b1
  · have := u2 a1
    subst this
    exact sb2_u a2 b2
set_option maxHeartbeats 1000000 in
theorem evW_m {sgB : Nat → List Int32 → List Int32 → Bool} {rw : Nat → List Int32} {hgt : Nat → Nat} : ∀ bs U w x U', evW sgB rw hgt bs U w x U' → w ≠ 0 → x ∈ bs
  | [], U, w, x, U', h, hw => absurd h.1 hw
  | b :: bs, U, w, x, U', h, hw => by
    obtain ⟨v, V, h1, h2⟩ := h
    rcases h2 with ⟨a1, a2, a3⟩ | ⟨a1, a2⟩
    · rw [a3]; exact List.mem_cons_self
    · exact List.mem_cons_of_mem _ (evW_m bs V w x U' a2 hw)
set_option maxHeartbeats 1000000 in
theorem spL_0 (par : Nat → Nat) : ∀ n b f, 0 < b → spL par n b f 0 = f 0
  | 0, b, f, _ => rfl
  | n + 1, b, f, hb => by
    show spL par n (b + 1) (if f (par b) = true then upB f b true else f) 0 = f 0
    rw [spL_0 par n (b + 1) _ (by omega)]
    by_cases q : f (par b) = true
    · rw [if_pos q]; unfold upB; rw [if_neg (by omega)]
    · rw [if_neg q]
set_option maxHeartbeats 1000000 in
theorem sb2_I {sgB : Nat → List Int32 → List Int32 → Bool} {S : Ab} (hI : aIS sgB S) {n w : Nat} (hn : n < S.1) {S' : Ab} (h : sb2 sgB S n w S') : aIS sgB S' := by
  rcases h with ⟨a1, a2, a3⟩ | ⟨a1, v, x, U', a2, a3, a4⟩
  · rw [a3]; exact hI
  obtain ⟨h1, h2, h3, h4, h5, h6, h7, h8, h10⟩ := hI
  rcases a4 with ⟨p1, p2⟩ | ⟨p1, p2⟩
  · rw [p2]
    subst p1
    exact ⟨h1, h2, h3, h4, h5, h6, h7, ⟨hn, x, a2⟩, h10⟩
  · rw [p2]
    refine ⟨h1, h2, h3, h4, h5, h6, h7, h8, ?_⟩
    have hx := (wy_mem h3 _ x (evW_m _ _ _ _ _ a2 p1)).1
    show spL S.2.1 (S.1 - 1) 1 (upB S.2.2.2.2.2.1 x true) 0 = false
    rw [spL_0 _ _ _ _ (by decide)]
    unfold upB
    rw [if_neg (by omega)]
    exact h10
set_option maxHeartbeats 1000000 in
theorem sbR_I {sgB : Nat → List Int32 → List Int32 → Bool} {S : Ab} (hI : aIS sgB S) (hn : S.1 ≤ 57) {r : List Int32} (hf : ftB (lf r)) (hl : r.length ≤ 3000) (hs : sBr S.2.2.2.2.2.2.1 S.1 + r.length ≤ 17000) {w : Nat} {S' : Ab} (h : sbR sgB S r w S') : aIS sgB S' := by
  obtain ⟨c, p, h1, h2⟩ := h
  rcases h2 with ⟨a1, a2, a3⟩ | ⟨a1, a2⟩
  · rw [a3]; exact hI
  · subst a1
    exact sb2_I (S := exA S p r) (aI_ext hI hn h1 hf hl hs) (Nat.lt_succ_self _) a2
