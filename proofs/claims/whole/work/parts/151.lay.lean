-- the class reads a block
abbrev Tx5 : Type := Nat × List In3 × Nat × List In3 × Nat
def pTxs (g : Nat → Int32) (E : Nat) : Nat → Nat → Option (List Tx5 × Nat)
  | 0, a => some ([], a)
  | n + 1, a => (pTx g E a).bind fun w => (pTxs g E n w.2.2.2).bind fun L => some ((a, w.1, w.2.1, w.2.2.1, w.2.2.2) :: L.1, L.2)
def pBl (g : Nat → Int32) (E : Nat) : Option (List Tx5) := if E < 80 then none else (cnt g E 80).bind fun v => (pTxs g E v.1 v.2).bind fun w => if w.2 = E then some w.1 else none
set_option maxHeartbeats 400000 in
theorem pTx_b {g : Nat → Int32} {E a : Nat} {I O : List In3} {c e : Nat} (h : pTx g E a = some (I, c, O, e)) : a + 10 + 41 * I.length + 9 * O.length ≤ e ∧ e ≤ E := by
  unfold pTx at h
  obtain ⟨⟨v, b⟩, h1, h2⟩ := Option.bind_eq_some_iff.mp h
  have hb := cnt_b h1
  replace h2 : pMid g E v b = some (I, c, O, e) := h2
  unfold pMid at h2
  obtain ⟨⟨I', c'⟩, h3, h4⟩ := Option.bind_eq_some_iff.mp h2
  obtain ⟨⟨O', e'⟩, h5, h6⟩ := Option.bind_eq_some_iff.mp h4
  have h6 := Option.some.inj h6
  have q1 : I' = I := congrArg Prod.fst h6
  have q2 : c' = c := congrArg (fun x => x.2.1) h6
  have q3 : O' = O := congrArg (fun x => x.2.2.1) h6
  have q4 : e' = e := congrArg (fun x => x.2.2.2) h6
  subst q1 q2 q3 q4
  have l1 := pL_b (pIn_f g E) v b I' c' h3
  replace h5 : pTail g E c' = some (O', e') := h5
  unfold pTail at h5
  obtain ⟨⟨m, d⟩, h7, h8⟩ := Option.bind_eq_some_iff.mp h5
  have hd := cnt_b h7
  obtain ⟨⟨O2, e2⟩, h9, h10⟩ := Option.bind_eq_some_iff.mp h8
  have l2 := pL_b (pOut_f g E) m d O2 e2 h9
  replace h10 : (if e2 + 4 ≤ E then some (O2, e2 + 4) else none) = some (O', e') := h10
  by_cases q : e2 + 4 ≤ E
  · rw [if_pos q] at h10
    have h10 := Option.some.inj h10
    have q3 : O2 = O' := congrArg Prod.fst h10
    have q4 : e2 + 4 = e' := congrArg Prod.snd h10
    subst q3 q4
    omega
  · rw [if_neg q] at h10
    exact absurd h10 (by simp)
set_option maxHeartbeats 400000 in
theorem pTxs_b {g : Nat → Int32} {E : Nat} : ∀ n a L b, pTxs g E n a = some (L, b) → L.length = n ∧ a + 10 * n ≤ b ∧ (a ≤ E → b ≤ E)
  | 0, a, L, b, h => by
    have h := Option.some.inj h
    have e1 : L = [] := (congrArg Prod.fst h).symm
    have e2 : b = a := (congrArg Prod.snd h).symm
    subst e1 e2
    exact ⟨rfl, by omega, fun q => q⟩
  | n + 1, a, L, b, h => by
    obtain ⟨⟨I, c, O, e⟩, h1, h2⟩ := Option.bind_eq_some_iff.mp h
    obtain ⟨⟨L', b'⟩, h3, h4⟩ := Option.bind_eq_some_iff.mp h2
    have h4 := Option.some.inj h4
    have e1 : (a, I, c, O, e) :: L' = L := congrArg Prod.fst h4
    have e2 : b' = b := congrArg Prod.snd h4
    subst e1 e2
    have ih := pTxs_b n _ _ _ h3
    have h5 := pTx_b h1
    replace ih : L'.length = n ∧ e + 10 * n ≤ b' ∧ (e ≤ E → b' ≤ E) := ih
    refine ⟨by rw [List.length_cons, ih.1], ?_, fun _ => ih.2.2 h5.2⟩
    omega
/-- arrays that hold what was read -/
def laH (u3 u4 u5 u6 u7 u8 u9 u10 u11 : Nat → Int32) : List Tx5 → Nat → Nat → Nat → Prop
  | [], _, _, _ => True
  | T :: TL, t, k, o => (u3 t = nI T.1 ∧ u3 (t + 1) = nI T.2.2.2.2 ∧ u4 t = nI k ∧ u4 (t + 1) = nI (k + T.2.1.length) ∧ u5 t = nI o ∧ u5 (t + 1) = nI (o + T.2.2.2.1.length)) ∧ hld u6 u7 u8 k T.2.1 ∧ hld u9 u10 u11 o T.2.2.2.1 ∧ laH u3 u4 u5 u6 u7 u8 u9 u10 u11 TL (t + 1) (k + T.2.1.length) (o + T.2.2.2.1.length)
def nIn : List Tx5 → Nat
  | [] => 0
  | T :: TL => T.2.1.length + nIn TL
def nOut : List Tx5 → Nat
  | [] => 0
  | T :: TL => T.2.2.2.1.length + nOut TL
set_option maxHeartbeats 400000 in
theorem hld_k {u v w u' v' w' : Nat → Int32} {k : Nat} {L : List In3} (h : hld u v w k L) (h1 : kb u u' (k + L.length)) (h2 : kb v v' (k + L.length)) (h3 : kb w w' (k + L.length)) : hld u' v' w' k L := fun j hj => by
  rw [h1 _ (by omega), h2 _ (by omega), h3 _ (by omega)]
  exact h j hj
abbrev T15 : Type := Int32 × Int32 × Int32 × Int32 × Int32 × Int32 × (Nat → Int32) × (Nat → Int32) × (Nat → Int32) × (Nat → Int32) × (Nat → Int32) × (Nat → Int32) × (Nat → Int32) × (Nat → Int32) × (Nat → Int32)
/-- arrays below are as they were -/
def laK (t k o a : Nat) (u3 u4 u5 u6 u7 u8 u9 u10 u11 v3 v4 v5 v6 v7 v8 v9 v10 v11 : Nat → Int32) : Prop := kb u3 v3 t ∧ kb u4 v4 t ∧ kb u5 v5 t ∧ (u3 t = nI a → v3 t = nI a) ∧ (u4 t = nI k → v4 t = nI k) ∧ (u5 t = nI o → v5 t = nI o) ∧ kb u6 v6 k ∧ kb u7 v7 k ∧ kb u8 v8 k ∧ kb u9 v9 o ∧ kb u10 v10 o ∧ kb u11 v11 o
def rdP (W : Option (List Tx5 × Nat)) (E t k o a m : Nat) (u3 u4 u5 u6 u7 u8 u9 u10 u11 : Nat → Int32) (x : T15) : Prop :=
  ((∀ TL, W ≠ some (TL, E)) ∧ x.1 = 0) ∨ ∃ TL, W = some (TL, E) ∧ x.1 = 1 ∧ x.2.1 = nI m ∧ x.2.2.1 = nI E ∧ x.2.2.2.1 = nI E ∧ x.2.2.2.2.1 = nI (k + nIn TL) ∧ x.2.2.2.2.2.1 = nI (o + nOut TL) ∧ laH x.2.2.2.2.2.2.1 x.2.2.2.2.2.2.2.1 x.2.2.2.2.2.2.2.2.1 x.2.2.2.2.2.2.2.2.2.1 x.2.2.2.2.2.2.2.2.2.2.1 x.2.2.2.2.2.2.2.2.2.2.2.1 x.2.2.2.2.2.2.2.2.2.2.2.2.1 x.2.2.2.2.2.2.2.2.2.2.2.2.2.1 x.2.2.2.2.2.2.2.2.2.2.2.2.2.2 TL t k o ∧ laK t k o a u3 u4 u5 u6 u7 u8 u9 u10 u11 x.2.2.2.2.2.2.1 x.2.2.2.2.2.2.2.1 x.2.2.2.2.2.2.2.2.1 x.2.2.2.2.2.2.2.2.2.1 x.2.2.2.2.2.2.2.2.2.2.1 x.2.2.2.2.2.2.2.2.2.2.2.1 x.2.2.2.2.2.2.2.2.2.2.2.2.1 x.2.2.2.2.2.2.2.2.2.2.2.2.2.1 x.2.2.2.2.2.2.2.2.2.2.2.2.2.2
set_option maxHeartbeats 400000 in
theorem l_rd78 (fu : Nat) (hfu : 500 ≤ fu) (n1 : Nat) (hn1 : n1 < 2 ^ 30) (g : Nat → Int32) {E m : Nat} (hE : E ≤ n1) (hE3 : E ≤ 3000) (hm : m ≤ 299) : ∀ r t n k o a u3 u4 u5 u6 u7 u8 u9 u10 u11, t + r = m → r < n → 80 + 41 * k + 9 * o ≤ a → a ≤ E → ok (x_La_read_78 fu n1 g n (lN m) (nI t) (0 : Int32) (nI E) (nI a) (nI k) (nI o) u3 u4 u5 u6 u7 u8 u9 u10 u11) (rdP (pTxs g E r a) E t k o a m u3 u4 u5 u6 u7 u8 u9 u10 u11) := by
  intro r
  induction r with
  | zero =>
    intro t n k o a u3 u4 u5 u6 u7 u8 u9 u10 u11 hi hn ha haE
    obtain ⟨n, rfl⟩ : ∃ m, n = m + 1 := ⟨n - 1, by omega⟩
    show ok (xb_La_read_78 fu n1 g (x_La_read_78 fu n1 g n) (lN m) (nI t) (0 : Int32) (nI E) (nI a) (nI k) (nI o) u3 u4 u5 u6 u7 u8 u9 u10 u11) _
    unfold xb_La_read_78
    refine ok_bnd (ok_t ((lgi t (by omega) m (by omega)).mpr (by omega)) (ok_bnd ?_))
    rw [iN_l]
    by_cases q : a = E
    · subst q
      exact ok_t rfl (ok_some (Or.inr ⟨[], rfl, rfl, rfl, rfl, rfl, rfl, rfl, trivial, kb_r _ _, kb_r _ _, kb_r _ _, fun h => h, fun h => h, fun h => h, kb_r _ _, kb_r _ _, kb_r _ _, kb_r _ _, kb_r _ _, kb_r _ _⟩))
    · refine ok_f (fun e => q ((nI_eq (by omega) (by omega)).mp e)) (ok_some (Or.inl ⟨fun TL h => ?_, rfl⟩))
      exact q (congrArg Prod.snd (Option.some.inj h))
  | succ r ih =>
    intro t n k o a u3 u4 u5 u6 u7 u8 u9 u10 u11 hi hn ha haE
    obtain ⟨n, rfl⟩ : ∃ m, n = m + 1 := ⟨n - 1, by omega⟩
    show ok (xb_La_read_78 fu n1 g (x_La_read_78 fu n1 g n) (lN m) (nI t) (0 : Int32) (nI E) (nI a) (nI k) (nI o) u3 u4 u5 u6 u7 u8 u9 u10 u11) _
    unfold xb_La_read_78
    refine ok_bnd (ok_f (fun q => by have := (lgi t (by omega) m (by omega)).mp q; omega) ?_)
    refine ok_bd13 (v_readTx fu hfu 0 n1 hn1 g hE hE3 (t := t) (by omega) ha haE u3 u4 u5 u6 u7 u8 u9 u10 u11) (fun v3 e4 e5 e6 f3 f4 f5 f6 f7 f8 f9 f10 f11 h => ?_)
    have ep : pTxs g E (r + 1) a = (pTx g E a).bind fun w => (pTxs g E r w.2.2.2).bind fun L => some ((a, w.1, w.2.1, w.2.2.1, w.2.2.2) :: L.1, L.2) := rfl
    rcases h with ⟨hn', h1⟩ | ⟨I, c, O, e, hs, h1, h2, h3, h4, h5, h6, h7, h8, h9, h10, h11, h12, h13, h14, h15⟩
    · replace h1 : v3 = 0 := h1
      refine ok_t h1 (ok_some (Or.inl ⟨fun TL h => ?_, rfl⟩))
      rw [ep, hn'] at h
      exact absurd h (by simp)
    · replace h1 : v3 = 1 := h1
      replace h2 : e4 = nI e := h2
      replace h3 : e5 = nI (k + I.length) := h3
      replace h4 : e6 = nI (o + O.length) := h4
      replace h5 : f3 = upd (upd u3 t (nI a)) (t + 1) (nI e) := h5
      replace h6 : f4 = upd (upd u4 t (nI k)) (t + 1) (nI (k + I.length)) := h6
      replace h7 : f5 = upd (upd u5 t (nI o)) (t + 1) (nI (o + O.length)) := h7
      replace h8 : hld f6 f7 f8 k I := h8
      replace h9 : kb u6 f6 k := h9
      replace h10 : kb u7 f7 k := h10
      replace h11 : kb u8 f8 k := h11
      replace h12 : hld f9 f10 f11 o O := h12
      replace h13 : kb u9 f9 o := h13
      replace h14 : kb u10 f10 o := h14
      replace h15 : kb u11 f11 o := h15
      have hb := pTx_b hs
      subst h2 h3 h4
      refine ok_f (by rw [h1]; exact one_ne) (ok_bn (nI_1 t) ?_)
      have ep2 : pTxs g E (r + 1) a = (pTxs g E r e).bind fun L => some ((a, I, c, O, e) :: L.1, L.2) := by
        rw [ep, hs]
        rfl
      refine ok_mono (ih (t + 1) n (k + I.length) (o + O.length) e f3 f4 f5 f6 f7 f8 f9 f10 f11 (by omega) (by omega) (by omega) hb.2) (fun x hx => ?_)
      rcases hx with ⟨hx, x1⟩ | ⟨TL, hx, x1, x2, x3, x4, x5, x6, x7, y1, y2, y3, y4, y5, y6, y7, y8, y9, y10, y11, y12⟩
      · refine Or.inl ⟨fun TL h => ?_, x1⟩
        rw [ep2] at h
        obtain ⟨⟨L', b'⟩, g1, g2⟩ := Option.bind_eq_some_iff.mp h
        have g2 : b' = E := congrArg Prod.snd (Option.some.inj g2)
        subst g2
        exact hx L' g1
      · have t3 : f3 t = nI a ∧ f3 (t + 1) = nI e := by rw [h5, pk_un (by omega), pk_us, pk_us]; exact ⟨rfl, rfl⟩
        have t4 : f4 t = nI k ∧ f4 (t + 1) = nI (k + I.length) := by rw [h6, pk_un (by omega), pk_us, pk_us]; exact ⟨rfl, rfl⟩
        have t5 : f5 t = nI o ∧ f5 (t + 1) = nI (o + O.length) := by rw [h7, pk_un (by omega), pk_us, pk_us]; exact ⟨rfl, rfl⟩
        refine Or.inr ⟨(a, I, c, O, e) :: TL, ?_, x1, x2, x3, x4, ?_, ?_, ⟨⟨?_, y4 t3.2, ?_, y5 t4.2, ?_, y6 t5.2⟩, hld_k h8 y7 y8 y9, hld_k h12 y10 y11 y12, x7⟩, ?_, ?_, ?_, ?_, ?_, ?_, ?_, ?_, ?_, ?_, ?_, ?_⟩
        · rw [ep2, hx]
          rfl
        · rw [x5]
          congr 1
          show k + I.length + nIn TL = k + (I.length + nIn TL)
          omega
        · rw [x6]
          congr 1
          show o + O.length + nOut TL = o + (O.length + nOut TL)
          omega
        · rw [y1 t (by omega)]; exact t3.1
        · rw [y2 t (by omega)]; exact t4.1
        · rw [y3 t (by omega)]; exact t5.1
        · intro j hj
          rw [y1 j (by omega), h5, pk_un (by omega), pk_un (by omega)]
        · intro j hj
          rw [y2 j (by omega), h6, pk_un (by omega), pk_un (by omega)]
        · intro j hj
          rw [y3 j (by omega), h7, pk_un (by omega), pk_un (by omega)]
        · intro _
          rw [y1 t (by omega)]; exact t3.1
        · intro _
          rw [y2 t (by omega)]; exact t4.1
        · intro _
          rw [y3 t (by omega)]; exact t5.1
        · exact fun j hj => by rw [y7 j (by omega)]; exact h9 j hj
        · exact fun j hj => by rw [y8 j (by omega)]; exact h10 j hj
        · exact fun j hj => by rw [y9 j (by omega)]; exact h11 j hj
        · exact fun j hj => by rw [y10 j (by omega)]; exact h13 j hj
        · exact fun j hj => by rw [y11 j (by omega)]; exact h14 j hj
        · exact fun j hj => by rw [y12 j (by omega)]; exact h15 j hj
/-- what read leaves -/
def lrP (W : Option (List Tx5)) (E : Nat) (x : T15) : Prop :=
  (W = none ∧ x.1 = 0) ∨ ∃ TL, W = some TL ∧ x.1 = 1 ∧ x.2.1 = nI TL.length ∧ x.2.2.1 = nI E ∧ x.2.2.2.1 = nI E ∧ x.2.2.2.2.1 = nI (nIn TL) ∧ x.2.2.2.2.2.1 = nI (nOut TL) ∧ laH x.2.2.2.2.2.2.1 x.2.2.2.2.2.2.2.1 x.2.2.2.2.2.2.2.2.1 x.2.2.2.2.2.2.2.2.2.1 x.2.2.2.2.2.2.2.2.2.2.1 x.2.2.2.2.2.2.2.2.2.2.2.1 x.2.2.2.2.2.2.2.2.2.2.2.2.1 x.2.2.2.2.2.2.2.2.2.2.2.2.2.1 x.2.2.2.2.2.2.2.2.2.2.2.2.2.2 TL 0 0 0
set_option maxHeartbeats 400000 in
theorem v_La_read (fu : Nat) (hfu : 500 ≤ fu) (n1 : Nat) (hn1 : n1 < 2 ^ 30) (g : Nat → Int32) {E : Nat} (hE : E ≤ n1) (hE3 : E ≤ 3000) (u0 u1 u2 u3 u4 : Int32) (u5 u6 u7 u8 u9 u10 u11 u12 u13 : Nat → Int32) : ok (x_La_read fu n1 g (nI E) u0 u1 u2 u3 u4 u5 u6 u7 u8 u9 u10 u11 u12 u13) (lrP (pBl g E) E) := by
  unfold x_La_read
  by_cases h80 : E < 80
  · refine ok_f (show ¬ (80 : Int32) ≤ nI E from nI_ge (b := 80) h80 (by decide)) ?_
    unfold xb_La_read_47
    refine ok_t lgm (ok_some (Or.inl ⟨?_, rfl⟩))
    unfold pBl
    rw [if_pos h80]
  refine ok_t (show (80 : Int32) ≤ nI E from nI_le (a := 80) (by omega) (by omega)) ?_
  rw [show (80 : Int32) = nI 80 from rfl]
  refine ok_bd2 (v_readCount fu (by omega) 0 0 0 n1 hn1 g hE (a := 80) (by omega)) (fun v1 e2 h => ?_)
  unfold xb_La_read_47
  rcases h with ⟨v, b, hc, h1, h2⟩ | ⟨hc, h1⟩
  · replace h1 : v1 = lN v := h1
    replace h2 : e2 = nI b := h2
    have hb := cnt_b hc
    subst h1 h2
    have ep : pBl g E = (pTxs g E v b).bind fun w => if w.2 = E then some w.1 else none := by
      unfold pBl
      rw [if_neg h80, hc]
      rfl
    refine ok_f (lgn v (by omega)) (ok_bn (show lN v * (10 : Int64) = lN (v * 10) from lN_m v 10) ?_)
    have hcmp : lg_cmp (lN (v * 10)) (nI E - nI b).toInt64 ≤ 0 ↔ b + 10 * v ≤ E := by
      rw [lgs (v * 10) (by omega), pk_sub_toInt (by omega) (by omega)]
      omega
    refine ok_ite (fun q => ?_) (fun q => ok_some (Or.inl ⟨?_, rfl⟩))
    · have q := hcmp.mp q
      rw [show (0 : Int32) = nI 0 from rfl]
      refine ok_mono (l_rd78 fu hfu n1 hn1 g (m := v) hE hE3 (by omega) v 0 fu 0 0 b u5 u6 u7 u8 u9 u10 u11 u12 u13 (by omega) (by omega) (by omega) hb.2.1) (fun x hx => ?_)
      rcases hx with ⟨hx, x1⟩ | ⟨TL, hx, x1, x2, x3, x4, x5, x6, x7, -⟩
      · refine Or.inl ⟨?_, x1⟩
        rw [ep]
        cases hp : pTxs g E v b with
        | none => rfl
        | some w =>
          show (if w.2 = E then some w.1 else none) = none
          rw [if_neg (fun e => hx w.1 (by rw [hp, ← e]))]
      · refine Or.inr ⟨TL, ?_, x1, ?_, x3, x4, ?_, ?_, x7⟩
        · rw [ep, hx]
          exact if_pos rfl
        · rw [x2, (pTxs_b v b TL E hx).1]
        · rw [x5, Nat.zero_add]
        · rw [x6, Nat.zero_add]
    · rw [ep]
      cases hp : pTxs g E v b with
      | none => rfl
      | some w =>
        show (if w.2 = E then some w.1 else none) = none
        have := pTxs_b v b w.1 w.2 hp
        exact absurd (hcmp.mpr (by have := this.2.2 hb.2.1; omega)) q
  · replace h1 : v1 = -1 := h1
    subst h1
    refine ok_t lgm (ok_some (Or.inl ⟨?_, rfl⟩))
    unfold pBl
    rw [if_neg h80, hc]
    rfl
