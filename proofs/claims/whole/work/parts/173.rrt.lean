-- the reference's isRoot
set_option maxHeartbeats 400000 in
theorem l_rt79 (fu : Nat) (z st ti : Nat → Int32) (k26 : Int32 → Int32 → Int32 → Int32 → (Nat → Int32) → (Nat → Int32) → (Nat → Int32) → (Nat → Int32) → (Nat → Int32) → (Nat → Int32) → Option (Int32 × (Nat → Int32) × (Nat → Int32) × (Nat → Int32) × (Nat → Int32) × (Nat → Int32) × (Nat → Int32))) (k35 : Int32 → Int32 → Int32 → Int32 → Int32 → (Nat → Int32) → (Nat → Int32) → (Nat → Int32) → (Nat → Int32) → (Nat → Int32) → (Nat → Int32) → Option (Int32 × (Nat → Int32) × (Nat → Int32) × (Nat → Int32) × (Nat → Int32) × (Nat → Int32) × (Nat → Int32))) {m pl n' k o : Nat} {x4 : Int32} (hk : k ≤ 400) (ho : o ≤ 800) {A B : Nat → Int32} (P : T7r → Prop) (u0 u1 u2 u3 u4 u5 : Nat → Int32) (hA : ∀ i, i < 8 → u4 (8 * (2 * k) + i) = nI (leP A (4 * i) 4)) (hB : ∀ i, i < 8 → u4 (8 * o + i) = nI (leP B (4 * i) 4)) : ∀ r i n x8 S, i + r = 8 → r < n → tf S x8 → (S ∧ fa (fun i => leP A (4 * i) 4 = leP B (4 * i) 4) i 8 → ok (xb_M_isRoot_139 fu z st ti k26 k35 (nI m) (nI pl) (0 : Int32) (nI n') (nI (2 * k)) (nI o) u0 u1 u2 u3 u4 u5) P) → (¬ (S ∧ fa (fun i => leP A (4 * i) 4 = leP B (4 * i) 4) i 8) → ok (xb_M_isRoot_139 fu z st ti k26 k35 (nI m) (nI pl) x4 (nI n') (nI (2 * k)) (nI o) u0 u1 u2 u3 u4 u5) P) → ok (x_M_isRoot_79 fu z st ti k26 k35 n (nI m) (nI pl) x4 (nI n') (nI (2 * k)) (nI o) x8 (nI i) u0 u1 u2 u3 u4 u5) P := by
  intro r
  induction r with
  | zero =>
    intro i n x8 S hi hn hx hY hN
    obtain ⟨n, rfl⟩ : ∃ m, n = m + 1 := ⟨n - 1, by omega⟩
    show ok (xb_M_isRoot_79 fu z st ti k26 k35 (x_M_isRoot_79 fu z st ti k26 k35 n) (nI m) (nI pl) x4 (nI n') (nI (2 * k)) (nI o) x8 (nI i) u0 u1 u2 u3 u4 u5) _
    unfold xb_M_isRoot_79
    exact ok_t ((nI_leI (a := 8) (by omega) (by omega)).mpr (by omega)) (ok_tf hx (fun q => hN fun z => q z.1) (fun q => hY ⟨q, fa_e (by omega)⟩))
  | succ r ih =>
    intro i n x8 S hi hn hx hY hN
    obtain ⟨n, rfl⟩ : ∃ m, n = m + 1 := ⟨n - 1, by omega⟩
    show ok (xb_M_isRoot_79 fu z st ti k26 k35 (x_M_isRoot_79 fu z st ti k26 k35 n) (nI m) (nI pl) x4 (nI n') (nI (2 * k)) (nI o) x8 (nI i) u0 u1 u2 u3 u4 u5) _
    unfold xb_M_isRoot_79
    refine ok_f (fun e => by have := (nI_leI (a := 8) (by omega) (by omega)).mp e; omega) (ok_bn (pk_mul 8 (2 * k)) (ok_bn (nI_add _ _) (ok_gd (inb_nI (by omega) (by decide)) (ok_bn (by rw [nI_clamp (n := 8 * (2 * k) + i) (by omega), hA i (by omega)]) ?_))))
    refine ok_bn (pk_mul 8 o) (ok_bn (nI_add _ _) (ok_gd (inb_nI (by omega) (by decide)) (ok_bn (by rw [nI_clamp (n := 8 * o + i) (by omega), hB i (by omega)]) ?_)))
    have a1 := leP_lt A (4 * i) 4
    have b1 := leP_lt B (4 * i) 4
    have C : ∀ y, tf (leP A (4 * i) 4 = leP B (4 * i) 4) y → ok (xb_M_isRoot_122 fu z st ti k26 k35 (x_M_isRoot_79 fu z st ti k26 k35 n) (nI m) (nI pl) x4 (nI n') (nI (2 * k)) (nI o) (nI i) y x8 u0 u1 u2 u3 u4 u5) P := fun y hy => by
      unfold xb_M_isRoot_122
      refine ok_bnd (ok_bn (nI_1 i) ?_)
      have e : (S ∧ fa (fun i => leP A (4 * i) 4 = leP B (4 * i) 4) i 8) ↔ (S ∧ leP A (4 * i) 4 = leP B (4 * i) 4) ∧ fa (fun i => leP A (4 * i) 4 = leP B (4 * i) 4) (i + 1) 8 := by
        constructor
        · intro w
          exact ⟨⟨w.1, w.2 i (Nat.le_refl _) (by omega)⟩, fun k a b => w.2 k (by omega) b⟩
        · intro w
          exact ⟨w.1.1, (fa_s (Q := fun i => leP A (4 * i) 4 = leP B (4 * i) 4) (j := i) (n := 8) w.1.2).mp w.2⟩
      exact ih (i + 1) n _ _ (by omega) (by omega) (tf_and hx hy) (fun w => hY (e.mpr w)) (fun w => hN fun v => w (e.mp v))
    by_cases q : leP A (4 * i) 4 = leP B (4 * i) 4
    · exact ok_t (by rw [q]) (C 1 (tf_1 q))
    · exact ok_f (fun e => q ((nI_eq32 a1 b1).mp e)) (C 0 (tf_0 q))
set_option maxHeartbeats 400000 in
/-- one level -/
theorem l_rt35 (fu : Nat) (hfu : 1600 ≤ fu) (z st ti : Nat → Int32) (k26 : Int32 → Int32 → Int32 → Int32 → (Nat → Int32) → (Nat → Int32) → (Nat → Int32) → (Nat → Int32) → (Nat → Int32) → (Nat → Int32) → Option (Int32 × (Nat → Int32) × (Nat → Int32) × (Nat → Int32) × (Nat → Int32) × (Nat → Int32) × (Nat → Int32))) {m pl n' : Nat} (hn' : n' ≤ 300) {H : Nat → Nat → Int32} (hH : fH n' H) {F : Prop} (P : T7r → Prop) (hE : ∀ x4 u0 u1 u2 u3 u4 u5, tf (F ∧ fa (fun k => ¬ dpQ n' H k) 0 ((n' + 1) / 2)) x4 → lvH u4 0 ((n' + 1) / 2) (nxH n' H) → ok (k26 (nI m) (nI pl) x4 (nI ((n' + 1) / 2)) u0 u1 u2 u3 u4 u5) P) : ∀ r k n x4 u0 u1 u2 u3 u4 u5, k + r = (n' + 1) / 2 → r < n → tf (F ∧ fa (fun k => ¬ dpQ n' H k) 0 k) x4 → lvH u4 0 k (nxH n' H) → lvH u4 (2 * k) n' H → ok (x_M_isRoot_35 fu z st ti k26 n (nI m) (nI pl) x4 (nI n') (nI (2 * k)) u0 u1 u2 u3 u4 u5) P := by
  intro r
  induction r with
  | zero =>
    intro k n x4 u0 u1 u2 u3 u4 u5 hk hn hx h1 h2
    obtain ⟨n, rfl⟩ : ∃ m, n = m + 1 := ⟨n - 1, by omega⟩
    show ok (xb_M_isRoot_35 fu z st ti k26 (x_M_isRoot_35 fu z st ti k26 n) (nI m) (nI pl) x4 (nI n') (nI (2 * k)) u0 u1 u2 u3 u4 u5) _
    unfold xb_M_isRoot_35
    have ek : k = (n' + 1) / 2 := by omega
    rw [ek] at hx h1
    exact ok_t ((nI_leI (by omega) (by omega)).mpr (by omega)) (ok_bn (nI_1 n') (ok_bn (pk_div (d := 2) (by omega) (by decide) (by decide)) (hE _ _ _ _ _ _ _ hx h1)))
  | succ r ih =>
    intro k n x4 u0 u1 u2 u3 u4 u5 hk hn hx h1 h2
    obtain ⟨n, rfl⟩ : ∃ m, n = m + 1 := ⟨n - 1, by omega⟩
    show ok (xb_M_isRoot_35 fu z st ti k26 (x_M_isRoot_35 fu z st ti k26 n) (nI m) (nI pl) x4 (nI n') (nI (2 * k)) u0 u1 u2 u3 u4 u5) _
    unfold xb_M_isRoot_35
    refine ok_f (fun e => by have := (nI_leI (by omega) (by omega)).mp e; omega) (ok_bn (nI_1 (2 * k)) ?_)
    have hot : otH n' k < n' := by unfold otH; split <;> omega
    have ho2 : 2 * k ≤ otH n' k := by unfold otH; split <;> omega
    have hA := fun i hi => h2 (2 * k) (Nat.le_refl _) (by omega) i hi
    have hB := fun i hi => h2 (otH n' k) ho2 hot i hi
    have fA := hH (2 * k) (by omega)
    have fB := hH (otH n' k) hot
    -- both ways end in the same
    have N : ∀ x4' Z, tf Z x4' → (Z ↔ F ∧ fa (fun k => ¬ dpQ n' H k) 0 (k + 1)) → ok (xb_M_isRoot_139 fu z st ti k26 (x_M_isRoot_35 fu z st ti k26 n) (nI m) (nI pl) x4' (nI n') (nI (2 * k)) (nI (otH n' k)) u0 u1 u2 u3 u4 u5) P := fun x4' Z hx' hZ => by
      unfold xb_M_isRoot_139
      refine l_rt142 fu hfu z st ti k26 (x_M_isRoot_35 fu z st ti k26 n) (k := k) (o := otH n' k) (by omega) (by omega) (A := H (2 * k)) (B := H (otH n' k)) P u0 u1 u2 u3 u4 hA hB fA fB (fun u0 u1 u2 u3 u4' u5 w1 w2 => ?_) 32 0 fu u5 (by omega) (by omega) (fun j hj => by omega)
      refine ih (k + 1) n x4' u0 u1 u2 u3 u4' u5 (by omega) (by omega) (tf_c hZ hx') ?_ ?_
      · intro k' a b i hi
        by_cases q : k' = k
        · rw [q]; exact w1 i hi
        · rw [w2 _ (by omega)]
          exact h1 k' a (by omega) i hi
      · intro k' a b i hi
        rw [w2 _ (by omega)]
        exact h2 k' (by omega) b i hi
    have D : dpQ n' H k ↔ (otH n' k ≠ 2 * k) ∧ fa (fun i => leP (H (2 * k)) (4 * i) 4 = leP (H (otH n' k)) (4 * i) 4) 0 8 := by
      have e8 := w8_i (p := H (2 * k)) (q := H (otH n' k)) (a := 0) (b := 0) (fun j hj => by rw [Nat.zero_add]; exact fA j hj) (fun j hj => by rw [Nat.zero_add]; exact fB j hj)
      have e9 : fa (fun i => leP (H (2 * k)) (4 * i) 4 = leP (H (otH n' k)) (4 * i) 4) 0 8 ↔ bl (H (2 * k)) 0 32 = bl (H (otH n' k)) 0 32 := by
        rw [← e8]
        exact fa_c fun m _ _ => by rw [Nat.zero_add]
      rw [e9]
      unfold dpQ otH
      by_cases q : 2 * k + 1 < n'
      · rw [if_pos q]
        exact ⟨fun w => ⟨by omega, w.2⟩, fun w => ⟨q, w.2⟩⟩
      · rw [if_neg q]
        exact ⟨fun w => absurd w.1 q, fun w => absurd rfl w.1⟩
    have G : ∀ y, tf (otH n' k ≠ 2 * k) y → ok (xb_M_isRoot_74 fu z st ti k26 (x_M_isRoot_35 fu z st ti k26 n) (nI m) (nI pl) x4 (nI n') (nI (2 * k)) (nI (otH n' k)) y u0 u1 u2 u3 u4 u5) P := fun y hy => by
      unfold xb_M_isRoot_74
      refine l_rt79 fu z st ti k26 (x_M_isRoot_35 fu z st ti k26 n) (k := k) (o := otH n' k) (by omega) (by omega) (A := H (2 * k)) (B := H (otH n' k)) P u0 u1 u2 u3 u4 u5 hA hB 8 0 fu y _ (by omega) (by omega) hy (fun w => N 0 False (tf_0 fun f => f) ⟨fun f => f.elim, fun v => ?_⟩) (fun w => N x4 _ hx ⟨fun v => ⟨v.1, fun j a b => ?_⟩, fun v => ⟨v.1, fun j a b => v.2 j a (by omega)⟩⟩)
      · exact v.2 k (Nat.zero_le _) (by omega) (D.mpr w)
      · by_cases q : j = k
        · rw [q]; exact fun x => w (D.mp x)
        · exact v.2 j a (by omega)
    have G60 : ok (xb_M_isRoot_60 fu z st ti k26 (x_M_isRoot_35 fu z st ti k26 n) (nI m) (nI pl) x4 (nI n') (nI (2 * k)) (nI (otH n' k)) u0 u1 u2 u3 u4 u5) P := by
      unfold xb_M_isRoot_60
      by_cases q : otH n' k = 2 * k
      · exact ok_t (by rw [q]) (G 0 (tf_0 fun w => w q))
      · exact ok_f (fun e => q ((nI_eq (by omega) (by omega)).mp e)) (G 1 (tf_1 q))
    by_cases q : n' ≤ 2 * k + 1
    · refine ok_t ((nI_leI (by omega) (by omega)).mpr q) ?_
      have e : otH n' k = 2 * k := by unfold otH; rw [if_neg (by omega)]
      rw [e] at G60
      exact G60
    · refine ok_f (fun e => q ((nI_leI (by omega) (by omega)).mp e)) ?_
      have e : otH n' k = 2 * k + 1 := by unfold otH; rw [if_pos (by omega)]
      rw [e] at G60
      rw [nI_1]
      exact G60
set_option maxHeartbeats 400000 in
theorem l_rt26 (fu : Nat) (hfu : 1600 ≤ fu) (z st ti : Nat → Int32) {m pl : Nat} (hm : m ≤ 300) (hpl : pl + 32 ≤ 103000) (hst : ftB st) : ∀ f n' n x4 F H u0 u1 u2 u3 u4 u5, n' ≤ 2 ^ f → n' ≤ 300 → (n' = 0 ↔ m = 0) → f < n → tf F x4 → fH n' H → lvH u4 0 n' H → ok (x_M_isRoot_26 fu z st ti n (nI m) (nI pl) x4 (nI n') u0 u1 u2 u3 u4 u5) (fun y => tf (F ∧ rtQ (bl st pl 32) (f + 1) n' H) y.1) := by
  intro f
  have E1 : ∀ n' n x4 F H u0 u1 u2 u3 u4 u5, n' ≤ 1 → (n' = 0 ↔ m = 0) → tf F x4 → fH n' H → lvH u4 0 n' H → ok (xb_M_isRoot_26 fu z st ti (x_M_isRoot_26 fu z st ti n) (nI m) (nI pl) x4 (nI n') u0 u1 u2 u3 u4 u5) (fun y => tf (F ∧ bl (if n' = 0 then fun _ => 0 else H 0) 0 32 = bl st pl 32) y.1) := by
    intro n' n x4 F H u0 u1 u2 u3 u4 u5 h1 hnm hx hH hl
    unfold xb_M_isRoot_26
    have fG : ∀ j, j < 32 → fits .byte (.int ((if n' = 0 then fun _ => (0 : Int32) else H 0) (0 + j))) = true := fun j hj => by
      by_cases q : n' = 0
      · rw [if_pos q]; decide
      · rw [if_neg q, Nat.zero_add]; exact hH 0 (by omega) j hj
    refine ok_t ((nI_leI (b := 1) (by omega) (by omega)).mpr h1) (ok_mono (l_rt290 fu z st ti (w := fun i => leP (if n' = 0 then fun _ => 0 else H 0) (4 * i) 4) hx hm hpl u0 u1 u2 u3 u4 u5 (fun i hi => ⟨leP_lt _ _ 4, fun q => ?_, fun q => ?_⟩) 8 0 fu (by omega) (by omega)) (fun y hy => tf_c ?_ hy))
    · show leP (if n' = 0 then fun _ => 0 else H 0) (4 * i) 4 = 0
      rw [if_pos (hnm.mpr q)]
      show 0 + By 0 * 2 ^ (8 * 0) + By 0 * 2 ^ (8 * 1) + By 0 * 2 ^ (8 * 2) + By 0 * 2 ^ (8 * 3) = 0
      rw [By_0]
    · show u4 i = nI (leP (if n' = 0 then fun _ => 0 else H 0) (4 * i) 4)
      rw [if_neg (fun e => q (hnm.mp e))]
      have := hl 0 (Nat.le_refl _) (by have := fun e => q (hnm.mp e); omega) i hi
      rw [Nat.mul_zero, Nat.zero_add] at this
      exact this
    · rw [← w8_i (p := if n' = 0 then fun _ => 0 else H 0) (q := st) (a := 0) (b := pl) fG (fun j _ => hst _)]
      refine and_congr_right fun _ => fa_c fun i _ _ => by rw [Nat.zero_add]
  induction f with
  | zero =>
    intro n' n x4 F H u0 u1 u2 u3 u4 u5 h1 h2 hnm hn hx hH hl
    obtain ⟨n, rfl⟩ : ∃ m, n = m + 1 := ⟨n - 1, by omega⟩
    show ok (xb_M_isRoot_26 fu z st ti (x_M_isRoot_26 fu z st ti n) (nI m) (nI pl) x4 (nI n') u0 u1 u2 u3 u4 u5) _
    refine ok_mono (E1 n' n x4 F H u0 u1 u2 u3 u4 u5 h1 hnm hx hH hl) (fun y hy => ?_)
    show tf (F ∧ if n' ≤ 1 then _ else _) _
    rw [if_pos (show n' ≤ 1 from h1)]
    exact hy
  | succ f ih =>
    intro n' n x4 F H u0 u1 u2 u3 u4 u5 h1 h2 hnm hn hx hH hl
    obtain ⟨n, rfl⟩ : ∃ m, n = m + 1 := ⟨n - 1, by omega⟩
    show ok (xb_M_isRoot_26 fu z st ti (x_M_isRoot_26 fu z st ti n) (nI m) (nI pl) x4 (nI n') u0 u1 u2 u3 u4 u5) _
    by_cases q : n' ≤ 1
    · refine ok_mono (E1 n' n x4 F H u0 u1 u2 u3 u4 u5 q hnm hx hH hl) (fun y hy => ?_)
      show tf (F ∧ if n' ≤ 1 then _ else _) _
      rw [if_pos q]
      exact hy
    · unfold xb_M_isRoot_26
      refine ok_f (fun e => q ((nI_leI (b := 1) (by omega) (by omega)).mp e)) ?_
      refine l_rt35 fu hfu z st ti (x_M_isRoot_26 fu z st ti n) h2 hH (F := F) _ (fun x4 u0 u1 u2 u3 u4 u5 hx' hl' => ?_) ((n' + 1) / 2) 0 fu x4 u0 u1 u2 u3 u4 u5 (by omega) (by omega) (tf_c ⟨fun w => ⟨w, fa_e (by omega)⟩, fun w => w.1⟩ hx) (fun k a b => by omega) hl
      rw [Nat.pow_succ] at h1
      refine ok_mono (ih ((n' + 1) / 2) n x4 _ (nxH n' H) u0 u1 u2 u3 u4 u5 (by omega) (by omega) (by omega) (by omega) hx' (nxH_f n' H _) hl') (fun y hy => ?_)
      show tf (F ∧ if n' ≤ 1 then _ else _) _
      rw [if_neg q]
      exact tf_c and_assoc hy
set_option maxHeartbeats 400000 in
/-- t transactions whose ids are H, and the root at pl -/
theorem v_M_isRoot (fu : Nat) (hfu : 1600 ≤ fu) (z st ti : Nat → Int32) {t0 m pl : Nat} (hm : m ≤ 300) (ht : t0 + m ≤ 2200) (hpl : pl + 32 ≤ 103000) (hst : ftB st) {H : Nat → Nat → Int32} (hH : fH m H) (hti : ∀ k, k < m → ∀ i, i < 8 → ti (8 * (t0 + k) + i) = nI (leP (H k) (4 * i) 4)) (u0 u1 u2 u3 u4 u5 : Nat → Int32) : ok (x_M_isRoot fu z st ti (nI t0) (nI m) (nI pl) u0 u1 u2 u3 u4 u5) (fun y => tf (rtQ (bl st pl 32) 10 m H) y.1) := by
  unfold x_M_isRoot
  refine ok_bn (pk_mul 8 t0) (ok_bn (pk_mul 8 m) (ok_gd (cpk_nI (b := 0) (by omega) (by omega) (by decide) (by decide)) (ok_bnd ?_)))
  rw [nI_clamp (n := 8 * t0) (by omega), nI_clamp (n := 8 * m) (by omega)]
  refine ok_mono (l_rt26 fu hfu z st ti hm hpl hst 9 m fu 1 True H u0 u1 u2 u3 _ u5 (by omega) hm Iff.rfl (by omega) (tf_1 trivial) hH (fun k _ hk i hi => ?_)) (fun y hy => tf_c ⟨fun w => w.2, fun w => ⟨trivial, w⟩⟩ hy)
  rw [← hti k hk i hi, show (0 : Int32).toNatClampNeg = 0 from rfl, pk_cpy_in (Nat.zero_le _) (by omega), Nat.sub_zero, show 8 * t0 + (8 * k + i) = 8 * (t0 + k) + i from by omega]
