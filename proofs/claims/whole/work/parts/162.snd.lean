-- what a block's transactions are, and when they are sound
abbrev InV : Type := List Int32 × List Int32 × Nat
abbrev OutV : Type := Nat × List Int32
abbrev TxV : Type := List InV × List OutV × Nat
def inV (p : Nat → Int32) (i : In3) : InV := (bl p i.1 36, bl p i.2.1 i.2.2, leP p (i.2.1 + i.2.2) 4)
def outV (p : Nat → Int32) (o : In3) : OutV := (leP p o.1 8, bl p o.2.1 o.2.2)
def txV (p : Nat → Int32) (T : Tx5) : TxV := (T.2.1.map (inV p), T.2.2.2.1.map (outV p), leP p (T.2.2.2.2 - 4) 4)
def e_I : InV := ([], [], 0)
def e_O : OutV := (0, [])
def e_T : TxV := ([], [], 0)
def d3 : In3 := (0, 0, 0)
def d5 : Tx5 := (0, [], 0, [], 0)
def amS (T : TxV) : Prop := 0 < T.2.1.length ∧ fa (amQ fun m => (T.2.1.getD m e_O).1) 0 T.2.1.length
def inS (c : Prop) (T : TxV) : Prop := 0 < T.1.length ∧ fa (inQ c fun m => (T.1.getD m e_I).1) 0 T.1.length
def fiS (T : TxV) (h tm : Nat) : Prop := fiQ T.2.2 h tm (fa (sqQ fun m => (T.1.getD m e_I).2.2) 0 T.1.length)
def txS (c : Prop) (T : TxV) (h tm : Nat) : Prop := amS T ∧ inS c T ∧ fiS T h tm
def leS (T : TxV) : Prop := (∀ i, i ∈ T.1 → i.2.1.length ≤ 1000) ∧ ∀ o, o ∈ T.2.1 → o.2.length ≤ 1000
def sgX (T : TxV) : Nat := sumL (fun i : InV => sgK i.2.1) T.1 + sumL (fun o : OutV => sgK o.2) T.2.1
def sndS (V : List TxV) (h tm : Nat) : Prop := fa (fun t => txS (t = 0) (V.getD t e_T) h tm) 0 V.length ∧ 0 < V.length ∧ hgQ ((V.getD 0 e_T).1.getD 0 e_I).2.1 h ∧ (∀ T, T ∈ V → leS T) ∧ sumL sgX V ≤ 40
def inB (E : Nat) (I : List In3) : Prop := ∀ x, x ∈ I → x.1 + 37 ≤ x.2.1 ∧ x.2.1 + x.2.2 + 4 ≤ E
def ouB (E : Nat) (O : List In3) : Prop := ∀ x, x ∈ O → x.1 + 9 ≤ x.2.1 ∧ x.2.1 + x.2.2 ≤ E
/-- transactions that lie one behind the other, within E -/
def txB (E : Nat) : List Tx5 → Nat → Prop
  | [], a => a ≤ E
  | T :: TL, a => T.1 = a ∧ inB E T.2.1 ∧ ouB E T.2.2.2.1 ∧ a + 10 + 41 * T.2.1.length + 9 * T.2.2.2.1.length ≤ T.2.2.2.2 ∧ T.2.2.2.2 ≤ E ∧ txB E TL T.2.2.2.2
set_option maxHeartbeats 400000 in
theorem pL_all {f : Nat → Option (Nat × Nat)} {z : Nat} : ∀ n a L b, pL f z n a = some (L, b) → ∀ x, x ∈ L → f x.1 = some (x.2.1, x.2.2)
  | 0, a, L, b, h => by
    have h := Option.some.inj h
    have e1 : L = [] := (congrArg Prod.fst h).symm
    subst e1
    intro x hx
    exact absurd hx List.not_mem_nil
  | n + 1, a, L, b, h => by
    obtain ⟨⟨s, l⟩, h1, h2⟩ := Option.bind_eq_some_iff.mp h
    obtain ⟨⟨L', b'⟩, h3, h4⟩ := Option.bind_eq_some_iff.mp h2
    have h4 := Option.some.inj h4
    have e1 : (a, s, l) :: L' = L := congrArg Prod.fst h4
    subst e1
    intro x hx
    rcases List.mem_cons.mp hx with e | e
    · rw [e]; exact h1
    · exact pL_all n _ _ _ h3 x e
set_option maxHeartbeats 400000 in
theorem pTx_B {g : Nat → Int32} {E a : Nat} {I O : List In3} {c e : Nat} (h : pTx g E a = some (I, c, O, e)) : inB E I ∧ ouB E O := by
  unfold pTx at h
  obtain ⟨⟨v, b⟩, h1, h2⟩ := Option.bind_eq_some_iff.mp h
  replace h2 : pMid g E v b = some (I, c, O, e) := h2
  unfold pMid at h2
  obtain ⟨⟨I', c'⟩, h3, h4⟩ := Option.bind_eq_some_iff.mp h2
  obtain ⟨⟨O', e'⟩, h5, h6⟩ := Option.bind_eq_some_iff.mp h4
  have h6 := Option.some.inj h6
  have q1 : I' = I := congrArg Prod.fst h6
  have q2 : c' = c := congrArg (fun x => x.2.1) h6
  have q3 : O' = O := congrArg (fun x => x.2.2.1) h6
  have q4 : e' = e := congrArg (fun x => x.2.2.2) h6
  subst q1 q2 q3 q4
  refine ⟨fun x hx => ?_, ?_⟩
  · have := pIn_b (pL_all v b I' c' h3 x hx)
    exact ⟨this.2.1, this.2.2⟩
  · replace h5 : pTail g E c' = some (O', e') := h5
    unfold pTail at h5
    obtain ⟨⟨m, d⟩, h7, h8⟩ := Option.bind_eq_some_iff.mp h5
    obtain ⟨⟨O2, e2⟩, h9, h10⟩ := Option.bind_eq_some_iff.mp h8
    replace h10 : (if e2 + 4 ≤ E then some (O2, e2 + 4) else none) = some (O', e') := h10
    by_cases q : e2 + 4 ≤ E
    · rw [if_pos q] at h10
      have h10 := Option.some.inj h10
      have q3 : O2 = O' := congrArg Prod.fst h10
      subst q3
      intro x hx
      have := pOut_b (pL_all m d O2 e2 h9 x hx)
      exact ⟨this.2.1, this.2.2⟩
    · rw [if_neg q] at h10
      exact absurd h10 (by simp)
set_option maxHeartbeats 400000 in
theorem pTxs_B {g : Nat → Int32} {E : Nat} : ∀ n a L b, pTxs g E n a = some (L, b) → a ≤ E → txB E L a
  | 0, a, L, b, h, ha => by
    have h := Option.some.inj h
    have e1 : L = [] := (congrArg Prod.fst h).symm
    subst e1
    exact ha
  | n + 1, a, L, b, h, ha => by
    obtain ⟨⟨I, c, O, e⟩, h1, h2⟩ := Option.bind_eq_some_iff.mp h
    obtain ⟨⟨L', b'⟩, h3, h4⟩ := Option.bind_eq_some_iff.mp h2
    have h4 := Option.some.inj h4
    have e1 : (a, I, c, O, e) :: L' = L := congrArg Prod.fst h4
    subst e1
    have h5 := pTx_b h1
    have h6 := pTx_B h1
    exact ⟨rfl, h6.1, h6.2, h5.1, h5.2, pTxs_B n _ _ _ h3 h5.2⟩
set_option maxHeartbeats 400000 in
theorem pBl_B {g : Nat → Int32} {E : Nat} {TL : List Tx5} (h : pBl g E = some TL) : 80 ≤ E ∧ ∃ a, 81 ≤ a ∧ a ≤ E ∧ txB E TL a := by
  unfold pBl at h
  by_cases q : E < 80
  · rw [if_pos q] at h
    exact absurd h (by simp)
  rw [if_neg q] at h
  obtain ⟨⟨v, b⟩, h1, h2⟩ := Option.bind_eq_some_iff.mp h
  obtain ⟨⟨L, e⟩, h3, h4⟩ := Option.bind_eq_some_iff.mp h2
  have hb := cnt_b h1
  replace h4 : (if e = E then some L else none) = some TL := h4
  by_cases q2 : e = E
  · rw [if_pos q2] at h4
    have e1 := Option.some.inj h4
    subst e1
    exact ⟨by omega, b, by omega, hb.2.1, pTxs_B v b L e h3 hb.2.1⟩
  · rw [if_neg q2] at h4
    exact absurd h4 (by simp)
set_option maxHeartbeats 400000 in
theorem txB_n {E : Nat} : ∀ TL a, txB E TL a → a + 10 * TL.length + 41 * nIn TL + 9 * nOut TL ≤ E
  | [], a, h => by
    replace h : a ≤ E := h
    show a + 10 * 0 + 41 * 0 + 9 * 0 ≤ E
    omega
  | T :: TL, a, h => by
    obtain ⟨h1, h2, h3, h4, h5, h6⟩ := h
    have ih := txB_n TL _ h6
    show a + 10 * (TL.length + 1) + 41 * (T.2.1.length + nIn TL) + 9 * (T.2.2.2.1.length + nOut TL) ≤ E
    omega
set_option maxHeartbeats 400000 in
theorem txB_at {E : Nat} : ∀ TL a, txB E TL a → ∀ T, T ∈ TL → inB E T.2.1 ∧ ouB E T.2.2.2.1 ∧ a + 10 ≤ T.2.2.2.2 ∧ T.2.2.2.2 ≤ E ∧ a ≤ T.1 ∧ T.1 + 10 ≤ T.2.2.2.2
  | [], a, h, T, hT => absurd hT List.not_mem_nil
  | T0 :: TL, a, h, T, hT => by
    obtain ⟨h1, h2, h3, h4, h5, h6⟩ := h
    rcases List.mem_cons.mp hT with e | e
    · rw [e]
      exact ⟨h2, h3, by omega, h5, by omega, by omega⟩
    · have := txB_at TL _ h6 T e
      exact ⟨this.1, this.2.1, by omega, this.2.2.2.1, by omega, this.2.2.2.2.2⟩
set_option maxHeartbeats 400000 in
theorem hld_g {u v w : Nat → Int32} {k : Nat} {L : List In3} (h : hld u v w k L) {j : Nat} (hj : j < L.length) : u (k + j) = nI (L.getD j d3).1 ∧ v (k + j) = nI (L.getD j d3).2.1 ∧ w (k + j) = nI ((L.getD j d3).2.1 + (L.getD j d3).2.2) := by
  rw [gD_e L d3 hj]
  exact h j hj
set_option maxHeartbeats 400000 in
theorem hld_ap {u v w : Nat → Int32} {k : Nat} {A B : List In3} (h : hld u v w k A) (h' : hld u v w (k + A.length) B) : hld u v w k (A ++ B) := fun j hj => by
  by_cases q : j < A.length
  · rw [List.getElem_append_left q]
    exact h j q
  · rw [List.length_append] at hj
    rw [List.getElem_append_right (Nat.le_of_not_lt q)]
    have := h' (j - A.length) (by omega)
    rw [show k + A.length + (j - A.length) = k + j from by omega] at this
    exact this
set_option maxHeartbeats 400000 in
theorem laH_f {u3 u4 u5 u6 u7 u8 u9 u10 u11 : Nat → Int32} : ∀ TL t k o, laH u3 u4 u5 u6 u7 u8 u9 u10 u11 TL t k o → hld u6 u7 u8 k (TL.flatMap fun T => T.2.1) ∧ hld u9 u10 u11 o (TL.flatMap fun T => T.2.2.2.1)
  | [], t, k, o, _ => ⟨fun j hj => absurd hj (Nat.not_lt_zero _), fun j hj => absurd hj (Nat.not_lt_zero _)⟩
  | T :: TL, t, k, o, h => by
    obtain ⟨h1, h2, h3, h4⟩ := h
    have ih := laH_f TL _ _ _ h4
    rw [List.flatMap_cons, List.flatMap_cons]
    exact ⟨hld_ap h2 ih.1, hld_ap h3 ih.2⟩
set_option maxHeartbeats 400000 in
theorem nIn_f : ∀ TL : List Tx5, (TL.flatMap fun T => T.2.1).length = nIn TL
  | [] => rfl
  | T :: TL => by
    rw [List.flatMap_cons, List.length_append, nIn_f TL]
    rfl
set_option maxHeartbeats 400000 in
theorem nOut_f : ∀ TL : List Tx5, (TL.flatMap fun T => T.2.2.2.1).length = nOut TL
  | [] => rfl
  | T :: TL => by
    rw [List.flatMap_cons, List.length_append, nOut_f TL]
    rfl
set_option maxHeartbeats 400000 in
theorem laH_at {u3 u4 u5 u6 u7 u8 u9 u10 u11 : Nat → Int32} : ∀ TL t k o, laH u3 u4 u5 u6 u7 u8 u9 u10 u11 TL t k o → ∀ m, m < TL.length → ∃ k' o', k' + (TL.getD m d5).2.1.length ≤ k + nIn TL ∧ o' + (TL.getD m d5).2.2.2.1.length ≤ o + nOut TL ∧ (m = 0 → k' = k ∧ o' = o) ∧ (u3 (t + m) = nI (TL.getD m d5).1 ∧ u3 (t + m + 1) = nI (TL.getD m d5).2.2.2.2 ∧ u4 (t + m) = nI k' ∧ u4 (t + m + 1) = nI (k' + (TL.getD m d5).2.1.length) ∧ u5 (t + m) = nI o' ∧ u5 (t + m + 1) = nI (o' + (TL.getD m d5).2.2.2.1.length)) ∧ hld u6 u7 u8 k' (TL.getD m d5).2.1 ∧ hld u9 u10 u11 o' (TL.getD m d5).2.2.2.1
  | [], t, k, o, h, m, hm => absurd hm (Nat.not_lt_zero _)
  | T :: TL, t, k, o, h, 0, hm => by
    obtain ⟨h1, h2, h3, h4⟩ := h
    refine ⟨k, o, ?_, ?_, fun _ => ⟨rfl, rfl⟩, h1, h2, h3⟩
    · show k + T.2.1.length ≤ k + (T.2.1.length + nIn TL)
      omega
    · show o + T.2.2.2.1.length ≤ o + (T.2.2.2.1.length + nOut TL)
      omega
  | T :: TL, t, k, o, h, m + 1, hm => by
    obtain ⟨h1, h2, h3, h4⟩ := h
    obtain ⟨k', o', a1, a2, -, a3⟩ := laH_at TL _ _ _ h4 m (Nat.lt_of_succ_lt_succ hm)
    refine ⟨k', o', ?_, ?_, fun e => absurd e (Nat.succ_ne_zero m), ?_⟩
    · show k' + (TL.getD m d5).2.1.length ≤ k + (T.2.1.length + nIn TL)
      omega
    · show o' + (TL.getD m d5).2.2.2.1.length ≤ o + (T.2.2.2.1.length + nOut TL)
      omega
    · rw [show t + (m + 1) = t + 1 + m from by omega]
      exact a3
set_option maxHeartbeats 400000 in
theorem mem_gD {α : Type} (L : List α) (d : α) {m : Nat} (h : m < L.length) : L.getD m d ∈ L := by
  rw [gD_e L d h]
  exact List.getElem_mem h
