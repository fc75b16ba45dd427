-- the class reads inputs and outputs
def hld (u v w : Nat → Int32) (k : Nat) (L : List In3) : Prop := ∀ j (h : j < L.length), u (k + j) = nI (L[j]).1 ∧ v (k + j) = nI (L[j]).2.1 ∧ w (k + j) = nI ((L[j]).2.1 + (L[j]).2.2)
def kb (u u' : Nat → Int32) (k : Nat) : Prop := ∀ j, j < k → u' j = u j
set_option maxHeartbeats 400000 in
theorem kb_r (u : Nat → Int32) (k : Nat) : kb u u k := fun _ _ => rfl
set_option maxHeartbeats 400000 in
theorem hld_n (u v w : Nat → Int32) (k : Nat) : hld u v w k [] := fun j h => absurd h (Nat.not_lt_zero _)
set_option maxHeartbeats 400000 in
theorem hld_c {u v w : Nat → Int32} {k : Nat} {x : In3} {L : List In3} (h0 : u k = nI x.1 ∧ v k = nI x.2.1 ∧ w k = nI (x.2.1 + x.2.2)) (h : hld u v w (k + 1) L) : hld u v w k (x :: L) := by
  intro j hj
  cases j with
  | zero => exact h0
  | succ j =>
    have := h j (by simpa using hj)
    rw [show k + (j + 1) = k + 1 + j by omega]
    exact this
set_option maxHeartbeats 400000 in
theorem lgs (v : Nat) (hv : v < 2 ^ 62) (x : Int32) : lg_cmp (lN v) x.toInt64 ≤ 0 ↔ (v : Int) ≤ x.toInt := by
  rw [lg_le, lN_I (by omega), Int32.toInt_toInt64]
set_option maxHeartbeats 400000 in
theorem lgn (v : Nat) (hv : v < 2 ^ 62) : ¬ lg_cmp (lN v) 0 < 0 := by
  intro q
  have h := (lg_0 (lN v)).2
  rw [lN_I (by omega)] at h
  have := h.mpr (by omega)
  exact absurd q (Int32.not_lt.mpr this)
set_option maxHeartbeats 400000 in
theorem lgm : lg_cmp (-1) 0 < 0 := by decide
abbrev T6 : Type := Int32 × Int32 × Int32 × (Nat → Int32) × (Nat → Int32) × (Nat → Int32)
/-- what readIn (z = 4) or readOut (z = 0) leaves -/
def itP (f : Option (Nat × Nat)) (z a k : Nat) (u2 u3 u4 : Nat → Int32) (t : T6) : Prop := (f = none ∧ t.1 = 0) ∨ ∃ s l, f = some (s, l) ∧ t.1 = 1 ∧ t.2.1 = nI (s + l + z) ∧ t.2.2.1 = nI (k + 1) ∧ kb u2 t.2.2.2.1 k ∧ kb u3 t.2.2.2.2.1 k ∧ kb u4 t.2.2.2.2.2 k ∧ t.2.2.2.1 k = nI a ∧ t.2.2.2.2.1 k = nI s ∧ t.2.2.2.2.2 k = nI (s + l)
set_option maxHeartbeats 400000 in
theorem upd_kb (u : Nat → Int32) (k : Nat) (x : Int32) : kb u (upd u k x) k := fun j hj => pk_un (by omega)
set_option maxHeartbeats 400000 in
theorem v_readIn (fu : Nat) (hfu : 9 ≤ fu) (i1 i4 : Int32) (nr : Nat) (hnr : nr < 2 ^ 30) (g : Nat → Int32) {E a k : Nat} (hE : E ≤ nr) (hE3 : E ≤ 3000) (ha : a ≤ 4000) (hk : k < 73) (u2 u3 u4 : Nat → Int32) : ok (x_La_readIn fu i1 (nI E) i4 nr g (nI a) (nI k) u2 u3 u4) (itP (pIn g E a) 4 a k u2 u3 u4) := by
  unfold x_La_readIn
  have hin : inb (nI k) 73 = true := inb_nI hk (by decide)
  refine ok_gd hin (ok_bnd (ok_bn (nI_add a 36) (ok_bd2 (v_readCount fu hfu i1 (nI k) i4 nr hnr g hE (a := a + 36) (by omega)) (fun v3 e4 h => ?_))))
  rw [nI_clamp (n := k) (by omega)]
  rcases h with ⟨v, b, hc, h1, h2⟩ | ⟨hc, h1⟩
  · replace h1 : v3 = lN v := h1
    replace h2 : e4 = nI b := h2
    have hb := cnt_b hc
    subst h1 h2
    refine ok_f (lgn v (by omega)) (ok_bn (show nI E - nI b = nI (E - b) from pk_sub (by omega)) ?_)
    have hcmp : lg_cmp (lN v) (nI (E - b) - (4 : Int32)).toInt64 ≤ 0 ↔ b + v + 4 ≤ E := by
      rw [lgs v (by omega), show (nI (E - b) - (4 : Int32)).toInt = ((E - b : Nat) : Int) - (4 : Nat) from pk_sub_toInt (b := 4) (by omega) (by decide)]
      omega
    refine ok_ite (fun q => ?_) (fun q => ok_some (Or.inl ⟨?_, rfl⟩))
    · have q := hcmp.mp q
      refine ok_gd hin (ok_bnd ?_)
      rw [iN_l]
      refine ok_bn (nI_add b v) (ok_gd hin (ok_bnd ?_))
      refine ok_bn (nI_add (b + v) 4) (ok_bn (nI_1 k) (ok_some (Or.inr ⟨b, v, ?_, rfl, rfl, rfl, upd_kb _ _ _, upd_kb _ _ _, upd_kb _ _ _, pk_us, pk_us, pk_us⟩)))
      unfold pIn
      rw [hc]
      exact if_pos q
    · unfold pIn
      rw [hc]
      exact if_neg (fun s => q (hcmp.mpr s))
  · replace h1 : v3 = -1 := h1
    subst h1
    refine ok_t lgm (ok_some (Or.inl ⟨?_, rfl⟩))
    unfold pIn
    rw [hc]
    rfl
set_option maxHeartbeats 400000 in
theorem v_readOut (fu : Nat) (hfu : 9 ≤ fu) (i1 i4 : Int32) (nr : Nat) (hnr : nr < 2 ^ 30) (g : Nat → Int32) {E a k : Nat} (hE : E ≤ nr) (hE3 : E ≤ 3000) (ha : a ≤ 4000) (hk : k < 333) (u2 u3 u4 : Nat → Int32) : ok (x_La_readOut fu i1 (nI E) i4 nr g (nI a) (nI k) u2 u3 u4) (itP (pOut g E a) 0 a k u2 u3 u4) := by
  unfold x_La_readOut
  have hin : inb (nI k) 333 = true := inb_nI hk (by decide)
  refine ok_gd hin (ok_bnd (ok_bn (nI_add a 8) (ok_bd2 (v_readCount fu hfu i1 i4 (nI k) nr hnr g hE (a := a + 8) (by omega)) (fun v3 e4 h => ?_))))
  rw [nI_clamp (n := k) (by omega)]
  rcases h with ⟨v, b, hc, h1, h2⟩ | ⟨hc, h1⟩
  · replace h1 : v3 = lN v := h1
    replace h2 : e4 = nI b := h2
    have hb := cnt_b hc
    subst h1 h2
    refine ok_f (lgn v (by omega)) ?_
    have hcmp : lg_cmp (lN v) (nI E - nI b).toInt64 ≤ 0 ↔ b + v ≤ E := by
      rw [lgs v (by omega), pk_sub_toInt (by omega) (by omega)]
      omega
    refine ok_ite (fun q => ?_) (fun q => ok_some (Or.inl ⟨?_, rfl⟩))
    · have q := hcmp.mp q
      refine ok_gd hin (ok_bnd ?_)
      rw [iN_l]
      refine ok_bn (nI_add b v) (ok_gd hin (ok_bnd (ok_bn (nI_1 k) (ok_some (Or.inr ⟨b, v, ?_, rfl, rfl, rfl, upd_kb _ _ _, upd_kb _ _ _, upd_kb _ _ _, pk_us, pk_us, pk_us⟩)))))
      unfold pOut
      rw [hc]
      exact if_pos q
    · unfold pOut
      rw [hc]
      exact if_neg (fun s => q (hcmp.mpr s))
  · replace h1 : v3 = -1 := h1
    subst h1
    refine ok_t lgm (ok_some (Or.inl ⟨?_, rfl⟩))
    unfold pOut
    rw [hc]
    rfl
-- a transaction
abbrev T13 : Type := Int32 × Int32 × Int32 × Int32 × (Nat → Int32) × (Nat → Int32) × (Nat → Int32) × (Nat → Int32) × (Nat → Int32) × (Nat → Int32) × (Nat → Int32) × (Nat → Int32) × (Nat → Int32)
set_option maxHeartbeats 400000 in
theorem lgi (i : Nat) (hi : i < 2 ^ 31) (v : Nat) (hv : v < 2 ^ 62) : 0 ≤ lg_cmp (nI i).toInt64 (lN v) ↔ v ≤ i := by
  rw [iL hi]
  exact lg_n i v (by omega) hv
/-- behind the inputs: w is what the outputs are, and the end -/
def toP (E t k o : Nat) (w : Option (List In3 × Nat)) (u3 u4 u5 u6 u7 u8 u9 u10 u11 : Nat → Int32) (x : T13) : Prop :=
  ((∀ O e, w = some (O, e) → ¬ e + 4 ≤ E) ∧ x.1 = 0) ∨ ∃ O e, w = some (O, e) ∧ e + 4 ≤ E ∧ x.1 = 1 ∧ x.2.1 = nI (e + 4) ∧ x.2.2.1 = nI k ∧ x.2.2.2.1 = nI (o + O.length) ∧ x.2.2.2.2.1 = upd u3 (t + 1) (nI (e + 4)) ∧ x.2.2.2.2.2.1 = upd u4 (t + 1) (nI k) ∧ x.2.2.2.2.2.2.1 = upd u5 (t + 1) (nI (o + O.length)) ∧ x.2.2.2.2.2.2.2.1 = u6 ∧ x.2.2.2.2.2.2.2.2.1 = u7 ∧ x.2.2.2.2.2.2.2.2.2.1 = u8 ∧ hld x.2.2.2.2.2.2.2.2.2.2.1 x.2.2.2.2.2.2.2.2.2.2.2.1 x.2.2.2.2.2.2.2.2.2.2.2.2 o O ∧ kb u9 x.2.2.2.2.2.2.2.2.2.2.1 o ∧ kb u10 x.2.2.2.2.2.2.2.2.2.2.2.1 o ∧ kb u11 x.2.2.2.2.2.2.2.2.2.2.2.2 o
set_option maxHeartbeats 400000 in
theorem l_tx133 (fu : Nat) (hfu : 9 ≤ fu) (i1 : Int32) (nr : Nat) (hnr : nr < 2 ^ 30) (g : Nat → Int32) {E t k : Nat} (hE : E ≤ nr) (hE3 : E ≤ 3000) (ht : t < 300) (u3 u4 u5 u6 u7 u8 : Nat → Int32) {m : Nat} (hm : m ≤ 400) : ∀ r i n a o u9 u10 u11, i + r = m → r < n → 9 * (o + r) ≤ 2920 → a ≤ 3000 → ok (x_La_readTx_133 fu i1 (nI E) nr g n (nI t) (lN m) (nI i) (nI a) (nI k) (nI o) u3 u4 u5 u6 u7 u8 u9 u10 u11) (toP E t k o (pL (pOut g E) 0 r a) u3 u4 u5 u6 u7 u8 u9 u10 u11) := by
  intro r
  induction r with
  | zero =>
    intro i n a o u9 u10 u11 hi hn ho ha
    obtain ⟨n, rfl⟩ : ∃ m, n = m + 1 := ⟨n - 1, by omega⟩
    show ok (xb_La_readTx_133 fu i1 (nI E) nr g (x_La_readTx_133 fu i1 (nI E) nr g n) (nI t) (lN m) (nI i) (nI a) (nI k) (nI o) u3 u4 u5 u6 u7 u8 u9 u10 u11) _
    unfold xb_La_readTx_133
    have h301 : inb (nI (t + 1)) 301 = true := inb_nI (by omega) (by decide)
    refine ok_bnd (ok_t ((lgi i (by omega) m (by omega)).mpr (by omega)) (ok_bn (nI_add a 4) (ok_bn (nI_1 t) (ok_gd h301 (ok_bnd (ok_bn (nI_1 t) (ok_gd h301 (ok_bnd (ok_bn (nI_1 t) (ok_gd h301 (ok_bnd ?_)))))))))))
    rw [nI_clamp (n := t + 1) (by omega)]
    by_cases q : a + 4 ≤ E
    · refine ok_f (nI_nlt q (by omega)) (ok_some (Or.inr ⟨[], a, rfl, q, rfl, rfl, rfl, rfl, rfl, rfl, rfl, rfl, rfl, rfl, hld_n _ _ _ _, kb_r _ _, kb_r _ _, kb_r _ _⟩))
    · refine ok_t (nI_lt (by omega) (by omega)) (ok_some (Or.inl ⟨fun O e h => ?_, rfl⟩))
      have h := Option.some.inj h
      have e2 : a = e := congrArg Prod.snd h
      rw [← e2]
      exact q
  | succ r ih =>
    intro i n a o u9 u10 u11 hi hn ho ha
    obtain ⟨n, rfl⟩ : ∃ m, n = m + 1 := ⟨n - 1, by omega⟩
    show ok (xb_La_readTx_133 fu i1 (nI E) nr g (x_La_readTx_133 fu i1 (nI E) nr g n) (nI t) (lN m) (nI i) (nI a) (nI k) (nI o) u3 u4 u5 u6 u7 u8 u9 u10 u11) _
    unfold xb_La_readTx_133
    refine ok_bnd (ok_f (fun q => by have := (lgi i (by omega) m (by omega)).mp q; omega) ?_)
    refine ok_bd6 (v_readOut fu hfu i1 (nI k) nr hnr g hE hE3 (a := a) (k := o) (by omega) (by omega) u9 u10 u11) (fun v9 e10 e11 f12 f13 f14 h => ?_)
    rcases h with ⟨hn', h1⟩ | ⟨s, l, hs, h1, h2, h3, h4, h5, h6, h7, h8, h9⟩
    · replace h1 : v9 = 0 := h1
      refine ok_t h1 (ok_some (Or.inl ⟨fun O e h => ?_, rfl⟩))
      have : pL (pOut g E) 0 (r + 1) a = none := by
        show (pOut g E a).bind _ = none
        rw [hn']
        rfl
      rw [this] at h
      exact absurd h (by simp)
    · replace h1 : v9 = 1 := h1
      replace h2 : e10 = nI (s + l) := h2
      replace h3 : e11 = nI (o + 1) := h3
      replace h4 : kb u9 f12 o := h4
      replace h5 : kb u10 f13 o := h5
      replace h6 : kb u11 f14 o := h6
      replace h7 : f12 o = nI a := h7
      replace h8 : f13 o = nI s := h8
      replace h9 : f14 o = nI (s + l) := h9
      have hb := pOut_b hs
      subst h2 h3
      refine ok_f (by rw [h1]; exact one_ne) (ok_bn (nI_1 i) ?_)
      refine ok_mono (ih (i + 1) n (s + l) (o + 1) f12 f13 f14 (by omega) (by omega) (by omega) (by omega)) (fun x hx => ?_)
      have e : pL (pOut g E) 0 (r + 1) a = (pL (pOut g E) 0 r (s + l)).bind fun w => some ((a, s, l) :: w.1, w.2) := by
        show (pOut g E a).bind _ = _
        rw [hs]
        rfl
      rcases hx with ⟨hx, x1⟩ | ⟨O, en, hx, x0, x1, x2, x3, x4, x5, x6, x7, x8, x9, x10, x11, x12, x13, x14⟩
      · refine Or.inl ⟨fun O en h => ?_, x1⟩
        rw [e] at h
        obtain ⟨⟨O', e'⟩, g1, g2⟩ := Option.bind_eq_some_iff.mp h
        have g2 : e' = en := congrArg Prod.snd (Option.some.inj g2)
        rw [← g2]
        exact hx O' e' g1
      · refine Or.inr ⟨(a, s, l) :: O, en, ?_, x0, x1, x2, x3, ?_, x5, x6, ?_, x8, x9, x10, hld_c ⟨?_, ?_, ?_⟩ x11, fun j hj => ?_, fun j hj => ?_, fun j hj => ?_⟩
        · rw [e, hx]
          rfl
        · rw [x4, List.length_cons]
          congr 1
          omega
        · rw [x7, List.length_cons]
          congr 2
          omega
        · rw [x12 o (by omega)]; exact h7
        · rw [x13 o (by omega)]; exact h8
        · rw [x14 o (by omega)]; exact h9
        · rw [x12 j (by omega)]; exact h4 j hj
        · rw [x13 j (by omega)]; exact h5 j hj
        · rw [x14 j (by omega)]; exact h6 j hj
def pTail (g : Nat → Int32) (E c : Nat) : Option (List In3 × Nat) := (cnt g E c).bind fun v => (pL (pOut g E) 0 v.1 v.2).bind fun w => if w.2 + 4 ≤ E then some (w.1, w.2 + 4) else none
def pMid (g : Nat → Int32) (E r a : Nat) : Option (List In3 × Nat × List In3 × Nat) := (pL (pIn g E) 4 r a).bind fun w => (pTail g E w.2).bind fun x => some (w.1, w.2, x.1, x.2)
/-- a transaction at a: its inputs, where they end, its outputs, its end -/
def pTx (g : Nat → Int32) (E a : Nat) : Option (List In3 × Nat × List In3 × Nat) := (cnt g E (a + 4)).bind fun v => pMid g E v.1 v.2
set_option maxHeartbeats 400000 in
theorem pIn_f (g : Nat → Int32) (E : Nat) : ∀ a s l, pIn g E a = some (s, l) → a + 41 ≤ s + l + 4 ∧ s + l + 4 ≤ E := fun a s l h => by
  have := pIn_b h
  omega
set_option maxHeartbeats 400000 in
theorem pOut_f (g : Nat → Int32) (E : Nat) : ∀ a s l, pOut g E a = some (s, l) → a + 9 ≤ s + l + 0 ∧ s + l + 0 ≤ E := fun a s l h => by
  have := pOut_b h
  omega
def tiP (W : Option (List In3 × Nat × List In3 × Nat)) (t k o : Nat) (u3 u4 u5 u6 u7 u8 u9 u10 u11 : Nat → Int32) (x : T13) : Prop :=
  (W = none ∧ x.1 = 0) ∨ ∃ I c O e, W = some (I, c, O, e) ∧ x.1 = 1 ∧ x.2.1 = nI e ∧ x.2.2.1 = nI (k + I.length) ∧ x.2.2.2.1 = nI (o + O.length) ∧ x.2.2.2.2.1 = upd u3 (t + 1) (nI e) ∧ x.2.2.2.2.2.1 = upd u4 (t + 1) (nI (k + I.length)) ∧ x.2.2.2.2.2.2.1 = upd u5 (t + 1) (nI (o + O.length)) ∧ hld x.2.2.2.2.2.2.2.1 x.2.2.2.2.2.2.2.2.1 x.2.2.2.2.2.2.2.2.2.1 k I ∧ kb u6 x.2.2.2.2.2.2.2.1 k ∧ kb u7 x.2.2.2.2.2.2.2.2.1 k ∧ kb u8 x.2.2.2.2.2.2.2.2.2.1 k ∧ hld x.2.2.2.2.2.2.2.2.2.2.1 x.2.2.2.2.2.2.2.2.2.2.2.1 x.2.2.2.2.2.2.2.2.2.2.2.2 o O ∧ kb u9 x.2.2.2.2.2.2.2.2.2.2.1 o ∧ kb u10 x.2.2.2.2.2.2.2.2.2.2.2.1 o ∧ kb u11 x.2.2.2.2.2.2.2.2.2.2.2.2 o
set_option maxHeartbeats 400000 in
theorem l_tx75 (fu : Nat) (hfu : 500 ≤ fu) (i1 : Int32) (nr : Nat) (hnr : nr < 2 ^ 30) (g : Nat → Int32) {E t : Nat} (hE : E ≤ nr) (hE3 : E ≤ 3000) (ht : t < 300) (u3 u4 u5 u9 u10 u11 : Nat → Int32) {m o : Nat} (hm : m ≤ 400) : ∀ r i n a k u6 u7 u8, i + r = m → r < n → 80 + 41 * k + 9 * o ≤ a → k + r ≤ 72 ∧ a ≤ E → ok (x_La_readTx_75 fu i1 (nI E) nr g n (nI t) (lN m) (nI i) (nI a) (nI k) (nI o) u3 u4 u5 u6 u7 u8 u9 u10 u11) (tiP (pMid g E r a) t k o u3 u4 u5 u6 u7 u8 u9 u10 u11) := by
  intro r
  induction r with
  | zero =>
    intro i n a k u6 u7 u8 hi hn hk ha
    obtain ⟨n, rfl⟩ : ∃ m, n = m + 1 := ⟨n - 1, by omega⟩
    show ok (xb_La_readTx_75 fu i1 (nI E) nr g (x_La_readTx_75 fu i1 (nI E) nr g n) (nI t) (lN m) (nI i) (nI a) (nI k) (nI o) u3 u4 u5 u6 u7 u8 u9 u10 u11) _
    unfold xb_La_readTx_75
    have em : pMid g E 0 a = (pTail g E a).bind fun x => some ([], a, x.1, x.2) := rfl
    refine ok_bnd (ok_t ((lgi i (by omega) m (by omega)).mpr (by omega)) ?_)
    refine ok_bd2 (v_readCount fu (by omega) i1 (nI k) (nI o) nr hnr g hE (a := a) (by omega)) (fun v2 e3 h => ?_)
    rcases h with ⟨v, b, hc, h1, h2⟩ | ⟨hc, h1⟩
    · replace h1 : v2 = lN v := h1
      replace h2 : e3 = nI b := h2
      have hb := cnt_b hc
      subst h1 h2
      have et : pTail g E a = (pL (pOut g E) 0 v b).bind fun w => if w.2 + 4 ≤ E then some (w.1, w.2 + 4) else none := by
        unfold pTail
        rw [hc]
        rfl
      refine ok_f (lgn v (by omega)) (ok_bn (show lN v * (9 : Int64) = lN (v * 9) from lN_m v 9) ?_)
      have hcmp : lg_cmp (lN (v * 9)) (nI E - nI b).toInt64 ≤ 0 ↔ b + 9 * v ≤ E := by
        rw [lgs (v * 9) (by omega), pk_sub_toInt (by omega) (by omega)]
        omega
      refine ok_ite (fun q => ?_) (fun q => ok_some (Or.inl ⟨?_, rfl⟩))
      · have q := hcmp.mp q
        refine ok_mono (l_tx133 fu (by omega) i1 nr hnr g (t := t) (k := k) hE hE3 ht u3 u4 u5 u6 u7 u8 (m := v) (by omega) v 0 fu b o u9 u10 u11 (by omega) (by omega) (by omega) (by omega)) (fun x hx => ?_)
        rcases hx with ⟨hx, x1⟩ | ⟨O, en, hx, x0, x1, x2, x3, x4, x5, x6, x7, x8, x9, x10, x11, x12, x13, x14⟩
        · refine Or.inl ⟨?_, x1⟩
          rw [em, et]
          cases hp : pL (pOut g E) 0 v b with
          | none => rfl
          | some w =>
            show ((if w.2 + 4 ≤ E then some (w.1, w.2 + 4) else none).bind _) = none
            rw [if_neg (hx w.1 w.2 hp)]
            rfl
        · refine Or.inr ⟨[], a, O, en + 4, ?_, x1, x2, x3, x4, x5, x6, x7, ?_, ?_, ?_, ?_, x11, x12, x13, x14⟩
          · rw [em, et, hx]
            show ((if en + 4 ≤ E then some (O, en + 4) else none).bind _) = _
            rw [if_pos x0]
            rfl
          · exact hld_n _ _ _ _
          · rw [x8]; exact kb_r _ _
          · rw [x9]; exact kb_r _ _
          · rw [x10]; exact kb_r _ _
      · rw [em, et]
        cases hp : pL (pOut g E) 0 v b with
        | none => rfl
        | some w =>
          exfalso
          have := pL_b (pOut_f g E) v b w.1 w.2 hp
          exact q (hcmp.mpr (by have := this.2.2 (by omega); omega))
    · replace h1 : v2 = -1 := h1
      subst h1
      refine ok_t lgm (ok_some (Or.inl ⟨?_, rfl⟩))
      rw [em]
      unfold pTail
      rw [hc]
      rfl
  | succ r ih =>
    intro i n a k u6 u7 u8 hi hn hk ha
    obtain ⟨n, rfl⟩ : ∃ m, n = m + 1 := ⟨n - 1, by omega⟩
    show ok (xb_La_readTx_75 fu i1 (nI E) nr g (x_La_readTx_75 fu i1 (nI E) nr g n) (nI t) (lN m) (nI i) (nI a) (nI k) (nI o) u3 u4 u5 u6 u7 u8 u9 u10 u11) _
    unfold xb_La_readTx_75
    refine ok_bnd (ok_f (fun q => by have := (lgi i (by omega) m (by omega)).mp q; omega) ?_)
    refine ok_bd6 (v_readIn fu (by omega) i1 (nI o) nr hnr g hE hE3 (a := a) (k := k) (by omega) (by omega) u6 u7 u8) (fun v9 e10 e11 f12 f13 f14 h => ?_)
    rcases h with ⟨hn', h1⟩ | ⟨s, l, hs, h1, h2, h3, h4, h5, h6, h7, h8, h9⟩
    · replace h1 : v9 = 0 := h1
      refine ok_t h1 (ok_some (Or.inl ⟨?_, rfl⟩))
      have : pL (pIn g E) 4 (r + 1) a = none := by
        show (pIn g E a).bind _ = none
        rw [hn']
        rfl
      unfold pMid
      rw [this]
      rfl
    · replace h1 : v9 = 1 := h1
      replace h2 : e10 = nI (s + l + 4) := h2
      replace h3 : e11 = nI (k + 1) := h3
      replace h4 : kb u6 f12 k := h4
      replace h5 : kb u7 f13 k := h5
      replace h6 : kb u8 f14 k := h6
      replace h7 : f12 k = nI a := h7
      replace h8 : f13 k = nI s := h8
      replace h9 : f14 k = nI (s + l) := h9
      have hb := pIn_b hs
      subst h2 h3
      have e : pL (pIn g E) 4 (r + 1) a = (pL (pIn g E) 4 r (s + l + 4)).bind fun w => some ((a, s, l) :: w.1, w.2) := by
        show (pIn g E a).bind _ = _
        rw [hs]
        rfl
      refine ok_f (by rw [h1]; exact one_ne) (ok_bn (nI_1 i) ?_)
      refine ok_mono (ih (i + 1) n (s + l + 4) (k + 1) f12 f13 f14 (by omega) (by omega) (by omega) ⟨by omega, by omega⟩) (fun x hx => ?_)
      rcases hx with ⟨hx, x1⟩ | ⟨I, c, O, en, hx, x1, x2, x3, x4, x5, x6, x7, x8, x9, x10, x11, x12, x13, x14, x15⟩
      · refine Or.inl ⟨?_, x1⟩
        unfold pMid at hx ⊢
        rw [e]
        cases hp : pL (pIn g E) 4 r (s + l + 4) with
        | none => rfl
        | some w =>
          rw [hp] at hx
          show ((pTail g E w.2).bind _) = none
          cases hq : pTail g E w.2 with
          | none => rfl
          | some y =>
            have hx' : (pTail g E w.2).bind (fun x => some (w.1, w.2, x.1, x.2)) = none := hx
            rw [hq] at hx'
            exact absurd hx' (by simp)
      · refine Or.inr ⟨(a, s, l) :: I, c, O, en, ?_, x1, x2, ?_, x4, x5, ?_, x7, hld_c ⟨?_, ?_, ?_⟩ x8, fun j hj => ?_, fun j hj => ?_, fun j hj => ?_, x12, x13, x14, x15⟩
        · unfold pMid at hx ⊢
          rw [e]
          obtain ⟨w, hw1, hw2⟩ := Option.bind_eq_some_iff.mp hx
          obtain ⟨y, hy1, hy2⟩ := Option.bind_eq_some_iff.mp hw2
          rw [hw1]
          show ((pTail g E w.2).bind _) = _
          rw [hy1]
          have hy2 := Option.some.inj hy2
          have q1 : w.1 = I := congrArg Prod.fst hy2
          have q2 : (w.2, y.1, y.2) = (c, O, en) := congrArg Prod.snd hy2
          show some ((a, s, l) :: w.1, w.2, y.1, y.2) = _
          rw [q1, q2]
        · rw [x3, List.length_cons]
          congr 1
          omega
        · rw [x6, List.length_cons]
          congr 2
          omega
        · rw [x9 k (by omega)]; exact h7
        · rw [x10 k (by omega)]; exact h8
        · rw [x11 k (by omega)]; exact h9
        · rw [x9 j (by omega)]; exact h4 j hj
        · rw [x10 j (by omega)]; exact h5 j hj
        · rw [x11 j (by omega)]; exact h6 j hj
/-- the class reads a transaction -/
def tx1P (W : Option (List In3 × Nat × List In3 × Nat)) (a t k o : Nat) (u3 u4 u5 u6 u7 u8 u9 u10 u11 : Nat → Int32) (x : T13) : Prop := tiP W t k o (upd u3 t (nI a)) (upd u4 t (nI k)) (upd u5 t (nI o)) u6 u7 u8 u9 u10 u11 x
set_option maxHeartbeats 400000 in
theorem v_readTx (fu : Nat) (hfu : 500 ≤ fu) (i1 : Int32) (nr : Nat) (hnr : nr < 2 ^ 30) (g : Nat → Int32) {E t a k o : Nat} (hE : E ≤ nr) (hE3 : E ≤ 3000) (ht : t < 300) (ha : 80 + 41 * k + 9 * o ≤ a) (haE : a ≤ E) (u3 u4 u5 u6 u7 u8 u9 u10 u11 : Nat → Int32) : ok (x_La_readTx fu i1 (nI E) nr g (nI t) (nI a) (nI k) (nI o) u3 u4 u5 u6 u7 u8 u9 u10 u11) (tx1P (pTx g E a) a t k o u3 u4 u5 u6 u7 u8 u9 u10 u11) := by
  unfold x_La_readTx
  have h301 : inb (nI t) 301 = true := inb_nI (by omega) (by decide)
  refine ok_gd h301 (ok_bnd (ok_gd h301 (ok_bnd (ok_gd h301 (ok_bnd (ok_bn (nI_add a 4) ?_))))))
  rw [nI_clamp (n := t) (by omega)]
  refine ok_bd2 (v_readCount fu (by omega) i1 (nI k) (nI o) nr hnr g hE (a := a + 4) (by omega)) (fun v5 e6 h => ?_)
  rcases h with ⟨v, b, hc, h1, h2⟩ | ⟨hc, h1⟩
  · replace h1 : v5 = lN v := h1
    replace h2 : e6 = nI b := h2
    have hb := cnt_b hc
    subst h1 h2
    have et : pTx g E a = pMid g E v b := by
      unfold pTx
      rw [hc]
      rfl
    refine ok_f (lgn v (by omega)) (ok_bn (show lN v * (41 : Int64) = lN (v * 41) from lN_m v 41) ?_)
    have hcmp : lg_cmp (lN (v * 41)) (nI E - nI b).toInt64 ≤ 0 ↔ b + 41 * v ≤ E := by
      rw [lgs (v * 41) (by omega), pk_sub_toInt (by omega) (by omega)]
      omega
    unfold tx1P
    rw [et]
    refine ok_ite (fun q => ?_) (fun q => ok_some (Or.inl ⟨?_, rfl⟩))
    · have q := hcmp.mp q
      exact l_tx75 fu hfu i1 nr hnr g hE hE3 ht _ _ _ u9 u10 u11 (m := v) (o := o) (by omega) v 0 fu b k u6 u7 u8 (by omega) (by omega) (by omega) ⟨by omega, by omega⟩
    · unfold pMid
      cases hp : pL (pIn g E) 4 v b with
      | none => rfl
      | some w =>
        exfalso
        have := pL_b (pIn_f g E) v b w.1 w.2 hp
        exact q (hcmp.mpr (by have := this.2.2 (by omega); omega))
  · replace h1 : v5 = -1 := h1
    subst h1
    refine ok_t lgm (ok_some (Or.inl ⟨?_, rfl⟩))
    unfold pTx
    rw [hc]
    rfl
