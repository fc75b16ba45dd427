-- the class: whether a block is sound; scripts, all of it
def rs (f : Nat → Nat) : Nat → Nat → Nat
  | _, 0 => 0
  | j, r + 1 => f j + rs f (j + 1) r
set_option maxHeartbeats 400000 in
theorem rs_s (f : Nat → Nat) (j r : Nat) : rs f j (r + 1) = f j + rs f (j + 1) r := rfl
set_option maxHeartbeats 400000 in
theorem rs_sh (f : Nat → Nat) : ∀ r j, rs (fun m => f (m + 1)) j r = rs f (j + 1) r
  | 0, j => rfl
  | r + 1, j => by rw [rs_s, rs_s, rs_sh f r (j + 1)]
set_option maxHeartbeats 400000 in
theorem rs_c {f f' : Nat → Nat} : ∀ r j, (∀ m, j ≤ m → m < j + r → f m = f' m) → rs f j r = rs f' j r
  | 0, j, _ => rfl
  | r + 1, j, h => by rw [rs_s, rs_s, h j (by omega) (by omega), rs_c r (j + 1) (fun m a b => h m (by omega) (by omega))]
def sumL {α : Type} (f : α → Nat) : List α → Nat
  | [] => 0
  | x :: L => f x + sumL f L
set_option maxHeartbeats 400000 in
theorem sumL_ap {α : Type} (f : α → Nat) : ∀ A B, sumL f (A ++ B) = sumL f A + sumL f B
  | [], B => (Nat.zero_add _).symm
  | x :: A, B => by
    show f x + sumL f (A ++ B) = f x + sumL f A + sumL f B
    rw [sumL_ap f A B, Nat.add_assoc]
set_option maxHeartbeats 400000 in
theorem sumL_add {α : Type} (f h : α → Nat) : ∀ A, sumL (fun x => f x + h x) A = sumL f A + sumL h A
  | [] => rfl
  | x :: A => by
    show f x + h x + sumL (fun x => f x + h x) A = f x + sumL f A + (h x + sumL h A)
    rw [sumL_add f h A]
    omega
set_option maxHeartbeats 400000 in
theorem sumL_map {α β : Type} (k : α → β) (f : β → Nat) : ∀ A, sumL f (A.map k) = sumL (fun x => f (k x)) A
  | [] => rfl
  | x :: A => by
    show f (k x) + sumL f (A.map k) = f (k x) + sumL (fun x => f (k x)) A
    rw [sumL_map k f A]
set_option maxHeartbeats 400000 in
theorem sumL_flat {α β : Type} (k : α → List β) (f : β → Nat) : ∀ A, sumL f (A.flatMap k) = sumL (fun x => sumL f (k x)) A
  | [] => rfl
  | x :: A => by
    rw [List.flatMap_cons, sumL_ap, sumL_flat k f A]
    rfl
set_option maxHeartbeats 400000 in
theorem rs_l {α : Type} (f : α → Nat) (d : α) : ∀ L, rs (fun m => f (L.getD m d)) 0 L.length = sumL f L
  | [] => rfl
  | x :: L => by
    rw [List.length_cons, rs_s, ← rs_sh]
    show f x + rs (fun m => f (L.getD m d)) 0 L.length = f x + sumL f L
    rw [rs_l f d L]
set_option maxHeartbeats 400000 in
theorem gD_e {α : Type} (L : List α) (d : α) {m : Nat} (h : m < L.length) : L.getD m d = L[m] := by
  rw [List.getD_eq_getElem?_getD, List.getElem?_eq_getElem h]
  rfl
set_option maxHeartbeats 400000 in
theorem sgK_le (L : List Int32) : sgK L ≤ 20 * L.length := sgs_le 3001 L
set_option maxHeartbeats 400000 in
theorem fa_l {α : Type} (P : α → Prop) (d : α) (L : List α) : fa (fun m => P (L.getD m d)) 0 L.length ↔ ∀ x, x ∈ L → P x := by
  constructor
  · intro h x hx
    obtain ⟨i, hi, e⟩ := List.getElem_of_mem hx
    have q := h i (Nat.zero_le _) hi
    rw [← e, ← gD_e L d hi]
    exact q
  · intro h m _ hm
    show P (L.getD m d)
    rw [gD_e L d hm]
    exact h _ (List.getElem_mem hm)
set_option maxHeartbeats 400000 in
theorem getD_map {α β : Type} (k : α → β) (d : α) (d' : β) (L : List α) {m : Nat} (hm : m < L.length) : (L.map k).getD m d' = k (L.getD m d) := by
  rw [gD_e L d hm, gD_e (L.map k) d' (by rw [List.length_map]; exact hm), List.getElem_map]
def leQ (f : Nat → Nat) (m : Nat) : Prop := f m ≤ 1000
set_option maxHeartbeats 400000 in
theorem l_ss60 (fu : Nat) (hfu : 4000 ≤ fu) (i1 i2 i3 i4 : Int32) (nr : Nat) (hn : nr ≤ 3000) (g u7 u8 u10 u11 : Nat → Int32) {no : Nat} {oa ol : Nat → Nat} (hno : no ≤ 333) (hv : ∀ m, m < no → u10 m = nI (oa m) ∧ u11 m = nI (oa m + ol m) ∧ oa m + ol m ≤ nr) : ∀ r j n c, j + r = no → r < n → c + 20000 * r < 2 ^ 30 → ok (x_La_scriptsAreSound_60 fu i1 i2 i3 i4 (nI no) nr g u7 u8 u10 u11 n (nI c) (nI j)) (tf (fa (leQ ol) j no ∧ c + rs (fun m => sgK (bl g (oa m) (ol m))) j r ≤ 40)) := by
  intro r
  induction r with
  | zero =>
    intro j n c hj hn' hc
    obtain ⟨n, rfl⟩ : ∃ m, n = m + 1 := ⟨n - 1, by omega⟩
    show ok (xb_La_scriptsAreSound_60 fu i1 i2 i3 i4 (nI no) nr g u7 u8 u10 u11 (x_La_scriptsAreSound_60 fu i1 i2 i3 i4 (nI no) nr g u7 u8 u10 u11 n) (nI c) (nI j)) _
    unfold xb_La_scriptsAreSound_60
    refine ok_t ((nI_leI (by omega) (by omega)).mpr (by omega)) ?_
    rw [show (40 : Int32) = nI 40 from rfl]
    by_cases q : 40 < c
    · exact ok_t ((nI_ltI (by omega) (by omega)).mpr q) (ok_some (tf_0 fun e => by have : c + 0 ≤ 40 := e.2; omega))
    · exact ok_f (fun e => q ((nI_ltI (by omega) (by omega)).mp e)) (ok_some (tf_1 ⟨fa_e (by omega), by show c + 0 ≤ 40; omega⟩))
  | succ r ih =>
    intro j n c hj hn' hc
    obtain ⟨n, rfl⟩ : ∃ m, n = m + 1 := ⟨n - 1, by omega⟩
    show ok (xb_La_scriptsAreSound_60 fu i1 i2 i3 i4 (nI no) nr g u7 u8 u10 u11 (x_La_scriptsAreSound_60 fu i1 i2 i3 i4 (nI no) nr g u7 u8 u10 u11 n) (nI c) (nI j)) _
    unfold xb_La_scriptsAreSound_60
    obtain ⟨q1, q2, q3⟩ := hv j (by omega)
    have hi : inb (nI j) 333 = true := inb_nI (by omega) (by decide)
    have hc' : (nI j).toNatClampNeg = j := nI_clamp (n := j) (by omega)
    rw [hc', q1, q2]
    refine ok_f (fun e => by have := (nI_leI (by omega) (by omega)).mp e; omega) (ok_gd hi (ok_bnd (ok_gd hi (ok_bnd (ok_bn (e' := nI (ol j)) ?_ ?_)))))
    · rw [← nI_add, Int32.add_comm]
      exact Int32.add_sub_cancel _ _
    have hK : nI (ol j) ≤ (1000 : Int32) ↔ ol j ≤ 1000 := nI_leI (a := ol j) (b := 1000) (by omega) (by decide)
    by_cases q : ol j ≤ 1000
    · refine ok_t (hK.mpr q) (ok_gd hi (ok_bnd (ok_gd hi (ok_bnd ?_))))
      refine ok_bd1 (v_La_sigsOf fu hfu i1 i2 i3 i4 (nI no) nr (by omega) g q3 (by omega)) (fun x hx => ?_)
      subst hx
      have hl : sgK (bl g (oa j) (ol j)) ≤ 20 * 1000 := Nat.le_trans (sgK_le _) (Nat.mul_le_mul_left 20 (by rw [bl_len]; exact q))
      refine ok_bn (nI_add _ _) (ok_bn (nI_1 j) ?_)
      refine ok_mono (ih (j + 1) n _ (by omega) (by omega) (by generalize sgK (bl g (oa j) (ol j)) = S at hl ⊢; omega)) (fun x hx => tf_c ?_ hx)
      rw [fa_s (Q := leQ ol) (j := j) (n := no) q, rs_s, Nat.add_assoc]
    · exact ok_f (fun e => q (hK.mp e)) (ok_some (tf_0 fun e => fa_n (Q := leQ ol) (by omega) q e.1))
set_option maxHeartbeats 400000 in
theorem l_ss4 (fu : Nat) (hfu : 4000 ≤ fu) (i1 i2 i3 : Int32) (nr : Nat) (hn : nr ≤ 3000) (g u7 u8 u10 u11 : Nat → Int32) {ni no : Nat} {ia il oa ol : Nat → Nat} (hni : ni ≤ 73) (hno : no ≤ 333) (hw : ∀ m, m < ni → u7 m = nI (ia m) ∧ u8 m = nI (ia m + il m) ∧ ia m + il m ≤ nr) (hv : ∀ m, m < no → u10 m = nI (oa m) ∧ u11 m = nI (oa m + ol m) ∧ oa m + ol m ≤ nr) : ∀ r j n c, j + r = ni → r < n → c + 20000 * r < 2 ^ 29 → ok (x_La_scriptsAreSound_4 fu i1 i2 i3 (nI ni) (nI no) nr g u7 u8 u10 u11 n (nI c) (nI j)) (tf (fa (leQ il) j ni ∧ fa (leQ ol) 0 no ∧ c + rs (fun m => sgK (bl g (ia m) (il m))) j r + rs (fun m => sgK (bl g (oa m) (ol m))) 0 no ≤ 40)) := by
  intro r
  induction r with
  | zero =>
    intro j n c hj hn' hc
    obtain ⟨n, rfl⟩ : ∃ m, n = m + 1 := ⟨n - 1, by omega⟩
    show ok (xb_La_scriptsAreSound_4 fu i1 i2 i3 (nI ni) (nI no) nr g u7 u8 u10 u11 (x_La_scriptsAreSound_4 fu i1 i2 i3 (nI ni) (nI no) nr g u7 u8 u10 u11 n) (nI c) (nI j)) _
    unfold xb_La_scriptsAreSound_4
    refine ok_t ((nI_leI (by omega) (by omega)).mpr (by omega)) ?_
    refine ok_mono (l_ss60 fu hfu i1 i2 i3 (nI ni) nr hn g u7 u8 u10 u11 hno hv no 0 fu c (by omega) (by omega) (by omega)) (fun x hx => tf_c ?_ hx)
    exact ⟨fun z => ⟨fa_e (by omega), z.1, z.2⟩, fun z => ⟨z.2.1, z.2.2⟩⟩
  | succ r ih =>
    intro j n c hj hn' hc
    obtain ⟨n, rfl⟩ : ∃ m, n = m + 1 := ⟨n - 1, by omega⟩
    show ok (xb_La_scriptsAreSound_4 fu i1 i2 i3 (nI ni) (nI no) nr g u7 u8 u10 u11 (x_La_scriptsAreSound_4 fu i1 i2 i3 (nI ni) (nI no) nr g u7 u8 u10 u11 n) (nI c) (nI j)) _
    unfold xb_La_scriptsAreSound_4
    obtain ⟨q1, q2, q3⟩ := hw j (by omega)
    have hi : inb (nI j) 73 = true := inb_nI (by omega) (by decide)
    have hc' : (nI j).toNatClampNeg = j := nI_clamp (n := j) (by omega)
    rw [hc', q1, q2]
    refine ok_f (fun e => by have := (nI_leI (by omega) (by omega)).mp e; omega) (ok_gd hi (ok_bnd (ok_gd hi (ok_bnd (ok_bn (e' := nI (il j)) ?_ ?_)))))
    · rw [← nI_add, Int32.add_comm]
      exact Int32.add_sub_cancel _ _
    have hK : nI (il j) ≤ (1000 : Int32) ↔ il j ≤ 1000 := nI_leI (a := il j) (b := 1000) (by omega) (by decide)
    by_cases q : il j ≤ 1000
    · refine ok_t (hK.mpr q) (ok_gd hi (ok_bnd (ok_gd hi (ok_bnd ?_))))
      refine ok_bd1 (v_La_sigsOf fu hfu i1 i2 i3 (nI ni) (nI no) nr (by omega) g q3 (by omega)) (fun x hx => ?_)
      subst hx
      have hl : sgK (bl g (ia j) (il j)) ≤ 20 * 1000 := Nat.le_trans (sgK_le _) (Nat.mul_le_mul_left 20 (by rw [bl_len]; exact q))
      refine ok_bn (nI_add _ _) (ok_bn (nI_1 j) ?_)
      refine ok_mono (ih (j + 1) n _ (by omega) (by omega) (by generalize sgK (bl g (ia j) (il j)) = S at hl ⊢; omega)) (fun x hx => tf_c ?_ hx)
      rw [fa_s (Q := leQ il) (j := j) (n := ni) q, rs_s, Nat.add_assoc c]
    · exact ok_f (fun e => q (hK.mp e)) (ok_some (tf_0 fun e => fa_n (Q := leQ il) (by omega) q e.1))
set_option maxHeartbeats 400000 in
theorem l_is3 (fu : Nat) (i2 i3 i4 i5 : Int32) (nr : Nat) (g u3 u4 u5 u6 u7 u8 u9 u10 u11 : Nat → Int32) {m h tm : Nat} {A B C : Nat → Prop} {H S : Prop} (hm : m < 400)
    (hA : ∀ t, t < m → ok (x_La_amountsAreSound fu (nI m) i2 i3 i4 i5 nr g u5 u9 (nI t)) (tf (A t)))
    (hB : ∀ t, t < m → ok (x_La_inputsAreSound fu (nI m) i2 i3 i4 i5 nr g u4 u6 (nI t)) (tf (B t)))
    (hC : ∀ t, t < m → ok (x_La_isFinal fu (nI m) i2 i3 i4 i5 nr g u3 u4 u8 (nI t) (nI h) (lN tm)) (tf (C t)))
    (hH : 0 < m → B 0 → ok (x_La_beginsWith fu (nI m) i2 i3 i4 i5 nr g u7 u8 (nI h)) (tf H))
    (hS : ok (x_La_scriptsAreSound fu (nI m) i2 i3 i4 i5 nr g u7 u8 u10 u11) (tf S)) : ∀ r j n, j + r = m → r < n → (0 < j → B 0) → ok (x_La_isSound_3 fu (nI m) i2 i3 i4 i5 nr g u3 u4 u5 u6 u7 u8 u9 u10 u11 n (nI h) (lN tm) (nI j)) (tf (fa (fun t => A t ∧ B t ∧ C t) j m ∧ 0 < m ∧ H ∧ S)) := by
  intro r
  induction r with
  | zero =>
    intro j n hj hn' hb
    obtain ⟨n, rfl⟩ : ∃ m, n = m + 1 := ⟨n - 1, by omega⟩
    show ok (xb_La_isSound_3 fu (nI m) i2 i3 i4 i5 nr g u3 u4 u5 u6 u7 u8 u9 u10 u11 (x_La_isSound_3 fu (nI m) i2 i3 i4 i5 nr g u3 u4 u5 u6 u7 u8 u9 u10 u11 n) (nI h) (lN tm) (nI j)) _
    unfold xb_La_isSound_3
    refine ok_t ((nI_leI (by omega) (by omega)).mpr (by omega)) ?_
    by_cases q : m = 0
    · refine ok_t ((nI_leI (b := 0) (by omega) (by omega)).mpr (by omega)) (ok_some (tf_0 fun e => ?_))
      have := e.2.1
      omega
    refine ok_f (fun e => by have := (nI_leI (b := 0) (by omega) (by omega)).mp e; omega) ?_
    refine ok_bd1 (hH (by omega) (hb (by omega))) (fun x hx => ok_tf hx (fun z => ok_some (tf_0 fun e => z e.2.2.1)) (fun z => ?_))
    refine ok_bd1 hS (fun x hx => ok_tf hx (fun w => ok_some (tf_0 fun e => w e.2.2.2)) (fun w => ok_some (tf_1 ⟨fa_e (by omega), by omega, z, w⟩)))
  | succ r ih =>
    intro j n hj hn' hb
    obtain ⟨n, rfl⟩ : ∃ m, n = m + 1 := ⟨n - 1, by omega⟩
    show ok (xb_La_isSound_3 fu (nI m) i2 i3 i4 i5 nr g u3 u4 u5 u6 u7 u8 u9 u10 u11 (x_La_isSound_3 fu (nI m) i2 i3 i4 i5 nr g u3 u4 u5 u6 u7 u8 u9 u10 u11 n) (nI h) (lN tm) (nI j)) _
    unfold xb_La_isSound_3
    refine ok_f (fun e => by have := (nI_leI (by omega) (by omega)).mp e; omega) ?_
    have hj' : j < m := by omega
    refine ok_bd1 (hA j hj') (fun x hx => ok_tf hx (fun z => ok_some (tf_0 fun e => fa_n (Q := fun t => A t ∧ B t ∧ C t) hj' (fun w => z w.1) e.1)) (fun z1 => ?_))
    refine ok_bd1 (hB j hj') (fun x hx => ok_tf hx (fun z => ok_some (tf_0 fun e => fa_n (Q := fun t => A t ∧ B t ∧ C t) hj' (fun w => z w.2.1) e.1)) (fun z2 => ?_))
    refine ok_bd1 (hC j hj') (fun x hx => ok_tf hx (fun z => ok_some (tf_0 fun e => fa_n (Q := fun t => A t ∧ B t ∧ C t) hj' (fun w => z w.2.2) e.1)) (fun z3 => ?_))
    refine ok_bn (nI_1 j) (ok_mono (ih (j + 1) n (by omega) (by omega) (fun _ => ?_)) fun x hx => tf_c ?_ hx)
    · by_cases q : j = 0
      · rw [← q]; exact z2
      · exact hb (by omega)
    · rw [fa_s (Q := fun t => A t ∧ B t ∧ C t) (j := j) (n := m) ⟨z1, z2, z3⟩]
