-- blocks one behind the other
def sumB (f : Nat → Nat) : Nat → Nat
  | 0 => 0
  | b + 1 => sumB f b + f b
def sBr (rw : Nat → List Int32) (b : Nat) : Nat := sumB (fun k => (rw k).length) b
def tBr (rw : Nat → List Int32) (b : Nat) : Nat := sumB (fun k => (TLb rw k).length) b
def iBr (rw : Nat → List Int32) (b : Nat) : Nat := sumB (fun k => nIn (TLb rw k)) b
def oBr (rw : Nat → List Int32) (b : Nat) : Nat := sumB (fun k => nOut (TLb rw k)) b
def tGr (rw : Nat → List Int32) (b t : Nat) : Nat := tBr rw b + t
def iGr (rw : Nat → List Int32) (b t : Nat) : Nat := iBr rw b + nIn ((TLb rw b).take t)
def oGr (rw : Nat → List Int32) (b t : Nat) : Nat := oBr rw b + nOut ((TLb rw b).take t)
def Vdr (rw : Nat → List Int32) (nb b t : Nat) : Prop := b < nb ∧ t < (TLb rw b).length
set_option maxHeartbeats 400000 in
theorem sumB_le {f : Nat → Nat} {b : Nat} : ∀ {n}, b < n → sumB f b + f b ≤ sumB f n
  | 0, h => absurd h (Nat.not_lt_zero _)
  | n + 1, h => by
    show sumB f b + f b ≤ sumB f n + f n
    by_cases q : b = n
    · rw [q]; exact Nat.le_refl _
    · exact Nat.le_trans (sumB_le (by omega)) (Nat.le_add_right _ _)
set_option maxHeartbeats 400000 in
theorem sumB_cg {f g : Nat → Nat} : ∀ n, (∀ b, b < n → f b = g b) → sumB f n = sumB g n
  | 0, _ => rfl
  | n + 1, h => by
    show sumB f n + f n = sumB g n + g n
    rw [sumB_cg n fun b hb => h b (Nat.lt_succ_of_lt hb), h n (Nat.lt_succ_self n)]
set_option maxHeartbeats 400000 in
theorem nIn_tk : ∀ (TL : List Tx5) (t : Nat), t < TL.length → nIn (TL.take (t + 1)) = nIn (TL.take t) + (TL.getD t d5).2.1.length
  | [], t, h => absurd h (Nat.not_lt_zero _)
  | T :: TL, 0, _ => by
    show T.2.1.length + nIn (List.take 0 TL) = 0 + T.2.1.length
    rw [List.take_zero, Nat.zero_add]; rfl
  | T :: TL, t + 1, h => by
    show T.2.1.length + nIn (TL.take (t + 1)) = T.2.1.length + nIn (TL.take t) + (TL.getD t d5).2.1.length
    rw [nIn_tk TL t (Nat.lt_of_succ_lt_succ h), Nat.add_assoc]
set_option maxHeartbeats 400000 in
theorem nOut_tk : ∀ (TL : List Tx5) (t : Nat), t < TL.length → nOut (TL.take (t + 1)) = nOut (TL.take t) + (TL.getD t d5).2.2.2.1.length
  | [], t, h => absurd h (Nat.not_lt_zero _)
  | T :: TL, 0, _ => by
    show T.2.2.2.1.length + nOut (List.take 0 TL) = 0 + T.2.2.2.1.length
    rw [List.take_zero, Nat.zero_add]; rfl
  | T :: TL, t + 1, h => by
    show T.2.2.2.1.length + nOut (TL.take (t + 1)) = T.2.2.2.1.length + nOut (TL.take t) + (TL.getD t d5).2.2.2.1.length
    rw [nOut_tk TL t (Nat.lt_of_succ_lt_succ h), Nat.add_assoc]
set_option maxHeartbeats 400000 in
theorem nIn_mo : ∀ (TL : List Tx5) (t : Nat), nIn (TL.take t) ≤ nIn TL
  | [], t => by rw [List.take_nil]; exact Nat.le_refl _
  | T :: TL, 0 => Nat.zero_le _
  | T :: TL, t + 1 => Nat.add_le_add_left (nIn_mo TL t) _
set_option maxHeartbeats 400000 in
theorem nOut_mo : ∀ (TL : List Tx5) (t : Nat), nOut (TL.take t) ≤ nOut TL
  | [], t => by rw [List.take_nil]; exact Nat.le_refl _
  | T :: TL, 0 => Nat.zero_le _
  | T :: TL, t + 1 => Nat.add_le_add_left (nOut_mo TL t) _
/-- a sound block -/
def bkS (rw : Nat → List Int32) (hgt tim : Nat → Nat) (b : Nat) : Prop := pBl (lf (rw b)) (rw b).length = some (TLb rw b) ∧ (rw b).length ≤ 3000 ∧ ftB (lf (rw b)) ∧ sndS ((TLb rw b).map (txV (lf (rw b)))) (hgt b) (tim b)
set_option maxHeartbeats 400000 in
theorem pTx_c {g : Nat → Int32} {E a : Nat} {I O : List In3} {c e : Nat} (h : pTx g E a = some (I, c, O, e)) : a + 4 ≤ c ∧ c ≤ e := by
  unfold pTx at h
  obtain ⟨⟨v, b⟩, h1, h2⟩ := Option.bind_eq_some_iff.mp h
  have hb := cnt_b h1
  replace h2 : pMid g E v b = some (I, c, O, e) := h2
  unfold pMid at h2
  obtain ⟨⟨I', c'⟩, h3, h4⟩ := Option.bind_eq_some_iff.mp h2
  obtain ⟨⟨O', e'⟩, h5, h6⟩ := Option.bind_eq_some_iff.mp h4
  have h6 := Option.some.inj h6
  have q2 : c' = c := congrArg (fun x => x.2.1) h6
  have q4 : e' = e := congrArg (fun x => x.2.2.2) h6
  subst q2 q4
  have hc := cgI_le _ _ _ (pL_cg _ _ _ _ h3)
  replace h5 : pTail g E c' = some (O', e') := h5
  unfold pTail at h5
  obtain ⟨⟨v', b'⟩, k1, k2⟩ := Option.bind_eq_some_iff.mp h5
  have hb' := cnt_b k1
  obtain ⟨⟨O2, w⟩, k3, k4⟩ := Option.bind_eq_some_iff.mp k2
  have hw := (pL_b (f := pOut g E) (z := 0) (m := 0) (E := E) (fun a s l q => by have := pOut_b q; omega) _ _ _ _ k3).2.1
  replace k4 : (if w + 4 ≤ E then some (O2, w + 4) else none) = some (O', e') := k4
  by_cases q : w + 4 ≤ E
  · rw [if_pos q] at k4
    have k4 := Option.some.inj k4
    have : w + 4 = e' := congrArg Prod.snd k4
    omega
  · rw [if_neg q] at k4; cases k4
set_option maxHeartbeats 400000 in
theorem pTxs_at {g : Nat → Int32} {E : Nat} : ∀ n a L b, pTxs g E n a = some (L, b) → ∀ T, T ∈ L → pTx g E T.1 = some (T.2.1, T.2.2.1, T.2.2.2.1, T.2.2.2.2)
  | 0, a, L, b, h, T, hT => by
    have h := Option.some.inj h
    have e1 : L = [] := (congrArg Prod.fst h).symm
    subst e1
    exact absurd hT List.not_mem_nil
  | n + 1, a, L, b, h, T, hT => by
    obtain ⟨⟨I, c, O, e⟩, h1, h2⟩ := Option.bind_eq_some_iff.mp h
    obtain ⟨⟨L', b'⟩, h3, h4⟩ := Option.bind_eq_some_iff.mp h2
    have h4 := Option.some.inj h4
    have e1 : (a, I, c, O, e) :: L' = L := congrArg Prod.fst h4
    subst e1
    rcases List.mem_cons.mp hT with q | q
    · rw [q]; exact h1
    · exact pTxs_at n _ _ _ h3 T q
set_option maxHeartbeats 400000 in
theorem pBl_at {g : Nat → Int32} {E : Nat} {TL : List Tx5} (h : pBl g E = some TL) {T : Tx5} (hT : T ∈ TL) : pTx g E T.1 = some (T.2.1, T.2.2.1, T.2.2.2.1, T.2.2.2.2) := by
  unfold pBl at h
  by_cases q : E < 80
  · rw [if_pos q] at h; cases h
  rw [if_neg q] at h
  obtain ⟨⟨v, b⟩, h1, h2⟩ := Option.bind_eq_some_iff.mp h
  obtain ⟨⟨L, e⟩, h3, h4⟩ := Option.bind_eq_some_iff.mp h2
  replace h4 : (if e = E then some L else none) = some TL := h4
  by_cases q' : e = E
  · rw [if_pos q'] at h4
    have := Option.some.inj h4
    subst this
    exact pTxs_at _ _ _ _ h3 T hT
  · rw [if_neg q'] at h4; cases h4
set_option maxHeartbeats 400000 in
/-- what a sound block's transactions keep -/
theorem bk_t {rw : Nat → List Int32} {hgt tim : Nat → Nat} {b t : Nat} (h : bkS rw hgt tim b) (ht : t < (TLb rw b).length) : ((txO rw b t).1 + 4 ≤ (txO rw b t).2.2.1 ∧ (txO rw b t).2.2.1 ≤ (txO rw b t).2.2.2.2 ∧ (txO rw b t).2.2.2.2 ≤ (rw b).length ∧ (∀ x, x ∈ (txO rw b t).2.1 → x.1 + 37 ≤ x.2.1 ∧ x.2.1 + x.2.2 + 4 ≤ (rw b).length ∧ x.2.2 ≤ 1000) ∧ ∀ x, x ∈ (txO rw b t).2.2.2.1 → x.1 + 9 ≤ x.2.1 ∧ x.2.1 + x.2.2 ≤ (rw b).length ∧ x.2.2 ≤ 1000 ∧ leP (lf (rw b)) x.1 8 ≤ 2100000000000000) ∧ ((txO rw b t).2.1.length ≤ 73 ∧ (txO rw b t).2.2.2.1.length ≤ 400) ∧ inD rw b t := by
  obtain ⟨h1, h2, h3, s1, s2, s3, s4, s5⟩ := h
  have hm : txO rw b t ∈ TLb rw b := gD_mem d5 _ ht
  have hp := pBl_at h1 hm
  have hc := pTx_c hp
  have hb := pTx_b hp
  obtain ⟨E80, a0, ha0, ha1, hTB⟩ := pBl_B h1
  obtain ⟨t1, t2, t3, t4, t5, t6⟩ := txB_at _ _ hTB _ hm
  have hV : txV (lf (rw b)) (txO rw b t) ∈ (TLb rw b).map (txV (lf (rw b))) := List.mem_map.mpr ⟨_, hm, rfl⟩
  obtain ⟨l1, l2⟩ := s4 _ hV
  have hS := s1 t (Nat.zero_le _) (by rw [List.length_map]; exact ht)
  replace hS : txS (t = 0) (((TLb rw b).map (txV (lf (rw b)))).getD t e_T) (hgt b) (tim b) := hS
  rw [getD_map (txV (lf (rw b))) d5 e_T _ ht] at hS
  replace hS : txS (t = 0) (txV (lf (rw b)) (txO rw b t)) (hgt b) (tim b) := hS
  obtain ⟨⟨-, am⟩, ⟨-, dn⟩, -⟩ := hS
  unfold inD
  generalize txO rw b t = T at *
  refine ⟨⟨hc.1, hc.2, hb.2, fun x hx => ⟨(t1 x hx).1, (t1 x hx).2, ?_⟩, fun x hx => ⟨(t2 x hx).1, (t2 x hx).2, ?_, ?_⟩⟩, ⟨by omega, by omega⟩, ?_⟩
  · have := l1 (inV (lf (rw b)) x) (List.mem_map.mpr ⟨x, hx, rfl⟩)
    replace this : (bl (lf (rw b)) x.2.1 x.2.2).length ≤ 1000 := this
    rw [bl_len] at this
    exact this
  · have := l2 (outV (lf (rw b)) x) (List.mem_map.mpr ⟨x, hx, rfl⟩)
    replace this : (bl (lf (rw b)) x.2.1 x.2.2).length ≤ 1000 := this
    rw [bl_len] at this
    exact this
  · have am' : ∀ y, y ∈ T.2.2.2.1.map (outV (lf (rw b))) → y.1 ≤ 2100000000000000 := (fa_l (fun y : OutV => y.1 ≤ 2100000000000000) e_O (T.2.2.2.1.map (outV (lf (rw b))))).mp (fun m a1 a2 => (am m a1 a2).1)
    exact am' (outV (lf (rw b)) x) (List.mem_map.mpr ⟨x, hx, rfl⟩)
  · replace dn : fa (inQ (t = 0) (fun m => ((T.2.1.map (inV (lf (rw b)))).getD m e_I).1)) 0 (T.2.1.map (inV (lf (rw b)))).length := dn
    have e : ∀ m, m < T.2.1.length → ((T.2.1.map (inV (lf (rw b)))).getD m e_I).1 = bl (lf (rw b)) (T.2.1.getD m d3).1 36 := fun m hm => by
      rw [getD_map (inV (lf (rw b))) d3 e_I _ hm]; rfl
    have w : ∀ k k', k < k' → k' < T.2.1.length → inK rw b (T.2.1.getD k d3) ≠ inK rw b (T.2.1.getD k' d3) := fun k k' hk hk' q => by
      have := (dn k' (Nat.zero_le _) (by rw [List.length_map]; exact hk')).2 k (Nat.zero_le _) hk
      replace this : ((T.2.1.map (inV (lf (rw b)))).getD k' e_I).1 ≠ ((T.2.1.map (inV (lf (rw b)))).getD k e_I).1 := this
      rw [e k' hk', e k (by omega)] at this
      have q1 : bl (lf (rw b)) (T.2.1.getD k d3).1 32 = bl (lf (rw b)) (T.2.1.getD k' d3).1 32 := congrArg Prod.fst q
      have q2 : leP (lf (rw b)) ((T.2.1.getD k d3).1 + 32) 4 = leP (lf (rw b)) ((T.2.1.getD k' d3).1 + 32) 4 := congrArg Prod.snd q
      have q3 := (le4_i (fun j _ => h3 _) (fun j _ => h3 _)).mp q2
      refine this ?_
      rw [show (36 : Nat) = 32 + 4 from rfl, bl_app, bl_app, q1, bl_c 4 ((T.2.1.getD k' d3).1 + 32) ((T.2.1.getD k d3).1 + 32) fun j hj => (q3 j hj).symm]
    intro k k' hk hk' q
    rcases Nat.lt_trichotomy k k' with r | r | r
    · exact absurd q (w k k' r hk')
    · exact r
    · exact absurd q.symm (w k' k r hk)
