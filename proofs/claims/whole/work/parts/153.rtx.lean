-- the reference's double sha
set_option maxHeartbeats 400000 in
theorem s_sh_c {m m' : Nat → Int32} {n : Nat} (h : ∀ j, j < n → m j = m' j) : s_sh m n = s_sh m' n := by
  unfold s_sh
  refine s_it_c _ (fun j _ => ?_)
  unfold s_pd
  by_cases g : j < n
  · rw [if_pos g, if_pos g, h j g]
  · rw [if_neg g, if_neg g]
def dbl (m : Nat → Int32) (n j : Nat) : Int32 := s_ob (s_sh (fun i => s_ob (s_sh m n) i) 32) j
set_option maxHeartbeats 400000 in
theorem dbl_c {m m' : Nat → Int32} {n : Nat} (h : ∀ j, j < n → m j = m' j) : dbl m n = dbl m' n := by
  unfold dbl
  rw [s_sh_c h]
set_option maxHeartbeats 400000 in
theorem v_M_twice (fu : Nat) (hfu : 1600 ≤ fu) (z : Nat → Int32) (n1 : Nat) (h1 : Nat → Int32) (hn1 : n1 < 2 ^ 31) {a N : Nat} (hN : N ≤ 90000) (ha : a + N ≤ n1) (u0 u1 u2 u3 : Nat → Int32) (hfit : ∀ j, j < N → fits .byte (.int (h1 (a + j))) = true) : ok (x_M_twice fu z n1 h1 (nI a) (nI N) u0 u1 u2 u3) (fun t => ∀ j, t.2.2.1 j = if j < 32 then dbl (fun i => h1 (a + i)) N j else u2 j) := by
  unfold x_M_twice
  refine ok_bd4 (v_M_sha fu hfu z n1 h1 hn1 hN ha u0 u1 u2 u3 hfit) (fun f1 f2 f3 f4 h => ?_)
  replace h : ∀ j, f3 j = if j < 32 then s_ob (s_sh (fun i => h1 (a + i)) N) j else u2 j := h
  rw [show (0 : Int32) = nI 0 from rfl, show (32 : Int32) = nI 32 from rfl]
  refine ok_bd4 (v_M_sha_f1hash fu hfu z (a := 0) (N := 32) (by decide) (by decide) f1 f2 f3 f4 (fun j hj => ?_)) (fun f5 f6 f7 f8 h' => ok_some (fun j => ?_))
  · rw [h (0 + j), if_pos (by omega)]
    exact pk_fb _
  · replace h' : ∀ j, f7 j = if j < 32 then s_ob (s_sh (fun i => f3 (0 + i)) 32) j else f3 j := h'
    show f7 j = _
    rw [h' j]
    by_cases g : j < 32
    · rw [if_pos g, if_pos g]
      unfold dbl
      rw [s_sh_c (m := fun i => f3 (0 + i)) (m' := fun i => s_ob (s_sh (fun i => h1 (a + i)) N) i) (n := 32) (fun i hi => by
        show f3 (0 + i) = _
        rw [h (0 + i), if_pos (by omega), Nat.zero_add])]
    · rw [if_neg g, if_neg g, h j, if_neg g]
-- a transaction in the reference
abbrev T23 : Type := (Nat → Int32) × (Nat → Int32) × (Nat → Int32) × (Nat → Int32) × (Nat → Int32) × (Nat → Int32) × (Nat → Int32) × (Nat → Int32) × (Nat → Int32) × (Nat → Int32) × (Nat → Int32) × (Nat → Int32) × (Nat → Int32) × (Nat → Int32) × (Nat → Int64) × (Nat → Int32) × (Nat → Int32) × (Nat → Int32) × (Nat → Int32) × (Nat → Int32) × (Nat → Int32) × (Nat → Int32) × (Nat → Int32)
def kbL (u u' : Nat → Int64) (k : Nat) : Prop := ∀ j, j < k → u' j = u j
/-- fields that transaction may change: 5, 6, 7, 16, 18 -/
def fz (z z' : Nat → Int32) : Prop := ∀ j, j ≠ 5 → j ≠ 6 → j ≠ 7 → j ≠ 16 → j ≠ 18 → z' j = z j
set_option maxHeartbeats 400000 in
theorem fz_k {z z' : Nat → Int32} (h : zk z z') : fz z z' := fun j _ _ _ h1 h2 => h j h1 h2
set_option maxHeartbeats 400000 in
theorem fz_t {z z' z'' : Nat → Int32} (h : fz z z') (h' : fz z' z'') : fz z z'' := fun j a b c d e => (h' j a b c d e).trans (h j a b c d e)
set_option maxHeartbeats 400000 in
theorem fz_u {z : Nat → Int32} {k : Nat} {x : Int32} (hk : k = 5 ∨ k = 6 ∨ k = 7 ∨ k = 16 ∨ k = 18) : fz z (upd z k x) := fun j a b c d e => pk_un (by omega)
def hin (st u9 u10 u11 u12 u13 : Nat → Int32) (i : Nat) (I : List In3) : Prop := ∀ j (h : j < I.length), u9 (i + j) = nI (I[j]).1 ∧ u10 (i + j) = nI (I[j]).2.1 ∧ u11 (i + j) = nI (I[j]).2.2 ∧ u12 (i + j) = nI (leP st ((I[j]).2.1 + (I[j]).2.2) 4) ∧ u13 (i + j) = 0
def hout (st : Nat → Int32) (u14 : Nat → Int64) (u15 u16 u17 : Nat → Int32) (t o : Nat) (O : List In3) : Prop := ∀ j (h : j < O.length), u14 (o + j) = lN (leP st (O[j]).1 8) ∧ u15 (o + j) = nI (O[j]).2.1 ∧ u16 (o + j) = nI (O[j]).2.2 ∧ u17 (o + j) = nI t
set_option maxHeartbeats 400000 in
theorem hin_c {st u9 u10 u11 u12 u13 : Nat → Int32} {i : Nat} {x : In3} {I : List In3} (h0 : u9 i = nI x.1 ∧ u10 i = nI x.2.1 ∧ u11 i = nI x.2.2 ∧ u12 i = nI (leP st (x.2.1 + x.2.2) 4) ∧ u13 i = 0) (h : hin st u9 u10 u11 u12 u13 (i + 1) I) : hin st u9 u10 u11 u12 u13 i (x :: I) := by
  intro j hj
  cases j with
  | zero => exact h0
  | succ j =>
    have := h j (by simpa using hj)
    rw [show i + (j + 1) = i + 1 + j by omega]
    exact this
set_option maxHeartbeats 400000 in
theorem hout_c {st : Nat → Int32} {u14 : Nat → Int64} {u15 u16 u17 : Nat → Int32} {t o : Nat} {x : In3} {O : List In3} (h0 : u14 o = lN (leP st x.1 8) ∧ u15 o = nI x.2.1 ∧ u16 o = nI x.2.2 ∧ u17 o = nI t) (h : hout st u14 u15 u16 u17 t (o + 1) O) : hout st u14 u15 u16 u17 t o (x :: O) := by
  intro j hj
  cases j with
  | zero => exact h0
  | succ j =>
    have := h j (by simpa using hj)
    rw [show o + (j + 1) = o + 1 + j by omega]
    exact this
/-- the id of a transaction, as eight words -/
def idW (st : Nat → Int32) (a n j : Nat) : Int32 := nI (leP (dbl (fun i => st (a + i)) n) (4 * j) 4)
/-- all arrays are as they were below t, i, o -/
def keT (t i o : Nat) (u1 u2 u3 u4 u5 u6 u7 u8 u9 u10 u11 u12 u13 : Nat → Int32) (u14 : Nat → Int64) (u15 u16 u17 u18 u19 u20 u21 u22 : Nat → Int32) (v1 v2 v3 v4 v5 v6 v7 v8 v9 v10 v11 v12 v13 : Nat → Int32) (v14 : Nat → Int64) (v15 v16 v17 v22 : Nat → Int32) : Prop := (kb u1 v1 t ∧ kb u2 v2 t ∧ kb u3 v3 (8 * t) ∧ kb u4 v4 t ∧ kb u5 v5 t ∧ kb u6 v6 t ∧ kb u7 v7 t ∧ kb u8 v8 t ∧ kb u22 v22 t) ∧ (kb u9 v9 i ∧ kb u10 v10 i ∧ kb u11 v11 i ∧ kb u12 v12 i ∧ kb u13 v13 i) ∧ kbL u14 v14 o ∧ kb u15 v15 o ∧ kb u16 v16 o ∧ kb u17 v17 o
set_option maxHeartbeats 400000 in
theorem kb_u {u v : Nat → Int32} {k j : Nat} {x : Int32} (h : kb u v k) (hj : k ≤ j) : kb u (upd v j x) k := fun n hn => by rw [pk_un (by omega)]; exact h n hn
set_option maxHeartbeats 400000 in
theorem kb_w {u v : Nat → Int32} {k j : Nat} (h : kb u v k) (hj : j ≤ k) : kb u v j := fun n hn => h n (by omega)
set_option maxHeartbeats 400000 in
theorem kb_t {u v w : Nat → Int32} {k : Nat} (h : kb u v k) (h' : kb v w k) : kb u w k := fun n hn => (h' n hn).trans (h n hn)
set_option maxHeartbeats 400000 in
theorem l_tr385 (fu : Nat) (st : Nat → Int32) (P : T23 → Prop) {t : Nat} (ht : t ≤ 2000) (z : Nat → Int32) (hz5 : z 5 = nI t) (u1 u2 u3 u4 u5 u6 u7 u8 u9 u10 u11 u12 u13 : Nat → Int32) (u14 : Nat → Int64) (u15 u16 u17 u18 u19 u20 u21 u22 : Nat → Int32) (hk : ∀ v3, kb u3 v3 (8 * t) → (∀ j, j < 8 → v3 (8 * t + j) = nI (leP u20 (4 * j) 4)) → P (upd z 5 (nI (t + 1)), u1, u2, v3, u4, u5, u6, u7, u8, u9, u10, u11, u12, u13, u14, u15, u16, u17, u18, u19, u20, u21, u22)) : ∀ r k n v3, k + r = 8 → r < n → kb u3 v3 (8 * t) → (∀ j, j < k → v3 (8 * t + j) = nI (leP u20 (4 * j) 4)) → ok (x_M_transaction_385 fu st n (nI t) (nI k) z u1 u2 v3 u4 u5 u6 u7 u8 u9 u10 u11 u12 u13 u14 u15 u16 u17 u18 u19 u20 u21 u22) P := by
  intro r
  induction r with
  | zero =>
    intro k n v3 hi hn h1 h2
    obtain ⟨n, rfl⟩ : ∃ m, n = m + 1 := ⟨n - 1, by omega⟩
    have : k = 8 := by omega
    subst this
    show ok (xb_M_transaction_385 fu st (x_M_transaction_385 fu st n) (nI t) (nI 8) z u1 u2 v3 u4 u5 u6 u7 u8 u9 u10 u11 u12 u13 u14 u15 u16 u17 u18 u19 u20 u21 u22) _
    unfold xb_M_transaction_385
    rw [hz5]
    exact ok_t (by decide) (ok_bn (nI_1 t) (ok_bnd (ok_some (hk v3 h1 h2))))
  | succ r ih =>
    intro k n v3 hi hn h1 h2
    obtain ⟨n, rfl⟩ : ∃ m, n = m + 1 := ⟨n - 1, by omega⟩
    show ok (xb_M_transaction_385 fu st (x_M_transaction_385 fu st n) (nI t) (nI k) z u1 u2 v3 u4 u5 u6 u7 u8 u9 u10 u11 u12 u13 u14 u15 u16 u17 u18 u19 u20 u21 u22) _
    unfold xb_M_transaction_385
    refine ok_f (show ¬ (8 : Int32) ≤ nI k from nI_ge (b := 8) (by omega) (by decide)) (ok_bn (pk_mul 8 t) (ok_bn (nI_add (8 * t) k) (ok_bn (pk_mul 4 k) ?_)))
    rw [m_small fu 32 (by decide) u20 (by omega), bd1_q]
    refine ok_gd (inb_nI (by omega) (by decide)) (ok_bnd (ok_bnd ?_))
    rw [nI_clamp (n := 8 * t + k) (by omega), nI_1]
    refine ih (k + 1) n _ (by omega) (by omega) (kb_u h1 (by omega)) (fun j hj => ?_)
    by_cases g : j = k
    · rw [g, pk_us]
    · rw [pk_un (by omega)]; exact h2 j (by omega)
/-- what is asked of the arrays behind a transaction that is right -/
def okT (st : Nat → Int32) (a t i o : Nat) (I : List In3) (c : Nat) (O : List In3) (e : Nat) (v1 v2 v3 v4 v5 v6 v7 v8 v9 v10 v11 v12 v13 : Nat → Int32) (v14 : Nat → Int64) (v15 v16 v17 v22 : Nat → Int32) : Prop := (v1 t = nI a ∧ v2 t = nI (e - a) ∧ (∀ j, j < 8 → v3 (8 * t + j) = idW st a (e - a) j) ∧ v4 t = nI i ∧ v5 t = nI I.length ∧ v6 t = nI o ∧ v7 t = nI O.length ∧ v8 t = nI (leP st (e - 4) 4) ∧ v22 t = nI c) ∧ hin st v9 v10 v11 v12 v13 i I ∧ hout st v14 v15 v16 v17 t o O
def trP (st : Nat → Int32) (W : Option (List In3 × Nat × List In3 × Nat)) (E a t i o : Nat) (z : Nat → Int32) (u1 u2 u3 u4 u5 u6 u7 u8 u9 u10 u11 u12 u13 : Nat → Int32) (u14 : Nat → Int64) (u15 u16 u17 u18 u19 u20 u21 u22 : Nat → Int32) (x : T23) : Prop := match x with
  | (z', v1, v2, v3, v4, v5, v6, v7, v8, v9, v10, v11, v12, v13, v14, v15, v16, v17, _, _, _, _, v22) =>
    fz z z' ∧ keT t i o u1 u2 u3 u4 u5 u6 u7 u8 u9 u10 u11 u12 u13 u14 u15 u16 u17 u18 u19 u20 u21 u22 v1 v2 v3 v4 v5 v6 v7 v8 v9 v10 v11 v12 v13 v14 v15 v16 v17 v22 ∧ ((W = none ∧ z' 18 = 1) ∨ ∃ I c O e, W = some (I, c, O, e) ∧ z' 18 = 0 ∧ z' 16 = nI e ∧ z' 5 = nI (t + 1) ∧ z' 6 = nI (i + I.length) ∧ z' 7 = nI (o + O.length) ∧ okT st a t i o I c O e v1 v2 v3 v4 v5 v6 v7 v8 v9 v10 v11 v12 v13 v14 v15 v16 v17 v22)
