-- the reference's work
set_option maxHeartbeats 400000 in
theorem U_not (x : Int32) : U (x ^^^ (-1 : Int32)) + U x = 2 ^ 32 - 1 := by
  have h : (x ^^^ (-1 : Int32)).toBitVec = ~~~ x.toBitVec := by
    show x.toBitVec ^^^ BitVec.allOnes 32 = _
    rw [BitVec.xor_allOnes]
  unfold U
  rw [h, BitVec.toNat_not]
  have := x.toBitVec.isLt
  omega
set_option maxHeartbeats 400000 in
theorem V_not {h g : Nat → Int32} : ∀ n, (∀ j, j < n → g j = h j ^^^ (-1 : Int32)) → V g n + V h n + 1 = 2 ^ (32 * n)
  | 0, _ => rfl
  | n + 1, e => by
    have ih := V_not (h := h) (g := g) n (fun j hj => e j (by omega))
    have hu := U_not (h n)
    rw [V_s, V_s, e n (by omega), show 32 * (n + 1) = 32 * n + 32 by omega, Nat.pow_add]
    have hm : U (h n ^^^ (-1 : Int32)) * 2 ^ (32 * n) + U (h n) * 2 ^ (32 * n) = (2 ^ 32 - 1) * 2 ^ (32 * n) := by rw [← Nat.add_mul, hu]
    generalize U (h n ^^^ (-1 : Int32)) * 2 ^ (32 * n) = A at *
    generalize U (h n) * 2 ^ (32 * n) = B at *
    generalize 2 ^ (32 * n) = X at *
    omega
def Wa (u : Nat → Int32) (b : Nat) : Nat := V (fun j => u (8 * b + j)) 8
abbrev T7 : Type := (Nat → Int32) × (Nat → Int32) × (Nat → Int32) × (Nat → Int32) × (Nat → Int32) × (Nat → Int32) × (Nat → Int32)
def woP (u0 : Nat → Int32) (b W : Nat) (t : T7) : Prop := (∀ j, ¬ (8 * b ≤ j ∧ j < 8 * b + 8) → t.1 j = u0 j) ∧ Wa t.1 b = W
set_option maxHeartbeats 400000 in
theorem l_wo74 (fu : Nat) (h9 : 9 ≤ fu) (z gp gt go : Nat → Int32) {b W : Nat} (hb : b < 202) (u0 u1 u2 u3 u4 u5 w : Nat → Int32) (hw : ∀ j, j < 8 → (gp b < 0 ∧ w j = 0) ∨ ∃ p, p < 202 ∧ gp b = nI p ∧ w j = u0 (8 * p + j)) (hW : V u5 8 + V w 8 = W) (hW2 : W < 2 ^ 256) : ∀ r k n u6, k + r = 8 → r < n → (∀ j, j < k → u6 j = w j) → ok (x_M_worth_74 fu z gp gt go n (nI b) (nI k) u0 u1 u2 u3 u4 u5 u6) (woP u0 b W) := by
  intro r
  induction r with
  | zero =>
    intro k n u6 hi hn hu
    obtain ⟨n, rfl⟩ : ∃ m, n = m + 1 := ⟨n - 1, by omega⟩
    have : k = 8 := by omega
    subst this
    show ok (xb_M_worth_74 fu z gp gt go (x_M_worth_74 fu z gp gt go n) (nI b) (nI 8) u0 u1 u2 u3 u4 u5 u6) _
    unfold xb_M_worth_74
    refine ok_t (by decide) ?_
    obtain ⟨c, s, es, hc, hs⟩ := v_M_add_e10 fu h9 u6 u5
    rw [es, bd2_q]
    have e6 : V u6 8 = V w 8 := V_c hu
    refine ok_bn (pk_mul 8 b) (ok_gd (cpk_nI (a := 0) (n := 8) (by omega) (by omega) (by decide) (by decide)) (ok_bnd (ok_some ⟨fun j hj => ?_, ?_⟩)))
    · show va_cpy s u0 0 (nI (8 * b)).toNatClampNeg 8 j = u0 j
      rw [nI_clamp (by omega), pk_cpy_out (by omega)]
    · show V (fun j => va_cpy s u0 0 (nI (8 * b)).toNatClampNeg 8 (8 * b + j)) 8 = W
      have : V (fun j => va_cpy s u0 0 (nI (8 * b)).toNatClampNeg 8 (8 * b + j)) 8 = V s 8 := V_c (fun j hj => by
        show va_cpy s u0 0 (nI (8 * b)).toNatClampNeg 8 (8 * b + j) = s j
        rw [nI_clamp (by omega), pk_cpy_in (by omega) (by omega)]
        congr 1
        omega)
      rw [this]
      have h8 := V8_lt s
      generalize V s 8 = S at *
      rcases c_01 hc with rfl | rfl <;> omega
  | succ r ih =>
    intro k n u6 hi hn hu
    obtain ⟨n, rfl⟩ : ∃ m, n = m + 1 := ⟨n - 1, by omega⟩
    show ok (xb_M_worth_74 fu z gp gt go (x_M_worth_74 fu z gp gt go n) (nI b) (nI k) u0 u1 u2 u3 u4 u5 u6) _
    unfold xb_M_worth_74 xb_M_worth_114
    have h8 : inb (nI k) 8 = true := inb_nI (by omega) (by decide)
    have hb2 : inb (nI b) 202 = true := inb_nI (by omega) (by decide)
    refine ok_f (show ¬ (8 : Int32) ≤ nI k from nI_ge (b := 8) (by omega) (by decide)) (ok_gd hb2 (ok_bnd ?_))
    rw [nI_clamp (n := b) (by omega)]
    have go : ∀ y, y = w k → ok (gd (inb (nI k) 8) <| bnd (upd u6 (nI k).toNatClampNeg y) fun f1 => bnd (nI k + (1 : Int32)) fun v2 => x_M_worth_74 fu z gp gt go n (nI b) v2 u0 u1 u2 u3 u4 u5 f1) (woP u0 b W) := by
      intro y hy
      refine ok_gd h8 (ok_bnd (ok_bnd ?_))
      rw [nI_clamp (n := k) (by omega), nI_1]
      refine ih (k + 1) n _ (by omega) (by omega) (fun j hj => ?_)
      by_cases g : j = k
      · rw [g, pk_us, hy]
      · rw [pk_un g]; exact hu j (by omega)
    rcases hw k (by omega) with ⟨hp, hwk⟩ | ⟨p, hp1, hp2, hwk⟩
    · refine ok_f (fun q => absurd hp (Int32.not_lt.mpr q)) (go _ hwk.symm)
    · refine ok_t (by rw [hp2]; exact nI_le (a := 0) (by omega) (by omega)) (ok_gd hb2 (ok_bnd ?_))
      rw [hp2]
      refine ok_bn (pk_mul 8 p) (ok_bn (nI_add (8 * p) k) (ok_gd (inb_nI (by omega) (by decide)) (ok_bnd (go _ ?_))))
      rw [nI_clamp (by omega), hwk]
set_option maxHeartbeats 400000 in
theorem wk_2 {T : Nat} (hT : T < 2 ^ 256) : (2 ^ 256 - 1 - T) / (T + 1) + 1 = 2 ^ 256 / (T + 1) := by
  have h : 2 ^ 256 = (2 ^ 256 - 1 - T) + (T + 1) := by omega
  conv => rhs; rw [h]
  rw [Nat.add_div_right _ (by omega)]
set_option maxHeartbeats 400000 in
theorem wn_1 {A T X : Nat} (h : A + T + 1 = X) : A = X - 1 - T := by omega
set_option maxHeartbeats 400000 in
theorem wn_2 {S T X c : Nat} (h : S + c * X = T) (hc : c ≤ 1) (hT : T < X) : S = T := by
  rcases c_01 hc with rfl | rfl
  · omega
  · omega
set_option maxHeartbeats 400000 in
theorem l_wo2z (fu : Nat) (hfu : 300 ≤ fu) (z gp gt go : Nat → Int32) {b P T Q X : Nat} (hX : X = 2 ^ 256) (hb : b < 202) (hT : V gt 8 = T) (hTl : T + 1 < X) (hQ : (X - 1 - T) / (T + 1) + 1 = Q) (ho : V go 8 = 1) (u0 u1 u2 u3 u4 u6 v : Nat → Int32) (hp : (gp b < 0 ∧ P = 0) ∨ ∃ p, p < 202 ∧ gp b = nI p ∧ P = Wa u0 p) (hW : Q + P < X) (hu : ∀ j, j < 8 → v j = gt j ^^^ (-1 : Int32)) : ok (bd2 (x_M_add fu gt go u6) fun v1 f2 => bd4 (x_M_divide fu z v f2 u1 u2 u3 u4) fun f3 f4 f5 f6 => bd2 (x_M_add fu f5 go v) fun v7 f8 => x_M_worth_74 fu z gp gt go fu (nI b) (0 : Int32) u0 f3 f4 f5 f6 f8 f2) (woP u0 b (Q + P)) := by
  have hv0 := V_not (h := gt) (g := v) 8 hu
  have hv : V v 8 + V gt 8 + 1 = X := by rw [hX]; exact hv0
  clear hv0
  rw [hT] at hv
  have hv' := wn_1 hv
  obtain ⟨c, s, es, hc, hs⟩ := v_M_add fu (by omega) gt go u6
  rw [hT, ho, ← hX] at hs
  have hs1 := wn_2 hs hc hTl
  rw [es, bd2_q]
  refine ok_bd4 (v_M_divide fu hfu z v s u1 u2 u3 u4 (by rw [hs1]; exact Nat.succ_pos _)) (fun f3 f4 f5 f6 hq => ?_)
  replace hq : V f5 8 = V v 8 / V s 8 := hq
  rw [hv', hs1] at hq
  obtain ⟨c2, s2, es2, hc2, hs2⟩ := v_M_add fu (by omega) f5 go v
  rw [ho, hq, hQ, ← hX] at hs2
  have hs3 := wn_2 hs2 hc2 (by omega)
  rw [es2, bd2_q]
  rw [hX] at hW
  rcases hp with ⟨p1, p2⟩ | ⟨p, p1, p2, p3⟩
  · refine l_wo74 fu (by omega) z gp gt go hb u0 f3 f4 f5 f6 s2 (fun _ => 0) (fun j _ => Or.inl ⟨p1, rfl⟩) ?_ hW 8 0 fu s (by omega) (by omega) (fun j hj => absurd hj (Nat.not_lt_zero _))
    rw [hs3, p2, (V_0 (fun _ => 0) 8).mpr (fun _ _ => rfl)]
  · refine l_wo74 fu (by omega) z gp gt go hb u0 f3 f4 f5 f6 s2 (fun j => u0 (8 * p + j)) (fun j _ => Or.inr ⟨p, p1, p2, rfl⟩) ?_ hW 8 0 fu s (by omega) (by omega) (fun j hj => absurd hj (Nat.not_lt_zero _))
    rw [hs3, p3]
    unfold Wa
    rfl
set_option maxHeartbeats 400000 in
theorem v_M_worth (fu : Nat) (hfu : 300 ≤ fu) (z gp gt go : Nat → Int32) {b P T Q X : Nat} (hX : X = 2 ^ 256) (hb : b < 202) (hT : V gt 8 = T) (hTl : T + 1 < X) (hQ : (X - 1 - T) / (T + 1) + 1 = Q) (ho : V go 8 = 1) (u0 u1 u2 u3 u4 u5 u6 : Nat → Int32) (hp : (gp b < 0 ∧ P = 0) ∨ ∃ p, p < 202 ∧ gp b = nI p ∧ P = Wa u0 p) (hW : Q + P < X) : ok (x_M_worth fu z gp gt go (nI b) u0 u1 u2 u3 u4 u5 u6) (woP u0 b (Q + P)) := by
  unfold x_M_worth
  have hz : ∀ r k n v, k + r = 8 → r < n → (∀ j, j < k → v j = gt j ^^^ (-1 : Int32)) → ok (x_M_worth_2 fu z gp gt go n (nI b) (nI k) u0 u1 u2 u3 u4 v u6) (woP u0 b (Q + P)) := by
    intro r
    induction r with
    | zero =>
      intro k n v hi hn hu
      obtain ⟨n, rfl⟩ : ∃ m, n = m + 1 := ⟨n - 1, by omega⟩
      have : k = 8 := by omega
      subst this
      show ok (xb_M_worth_2 fu z gp gt go (x_M_worth_2 fu z gp gt go n) (nI b) (nI 8) u0 u1 u2 u3 u4 v u6) _
      unfold xb_M_worth_2
      exact ok_t (by decide) (l_wo2z fu hfu z gp gt go hX hb hT hTl hQ ho u0 u1 u2 u3 u4 u6 v hp hW hu)
    | succ r ih =>
      intro k n v hi hn hu
      obtain ⟨n, rfl⟩ : ∃ m, n = m + 1 := ⟨n - 1, by omega⟩
      show ok (xb_M_worth_2 fu z gp gt go (x_M_worth_2 fu z gp gt go n) (nI b) (nI k) u0 u1 u2 u3 u4 v u6) _
      unfold xb_M_worth_2
      have h8 : inb (nI k) 8 = true := inb_nI (by omega) (by decide)
      refine ok_f (show ¬ (8 : Int32) ≤ nI k from nI_ge (b := 8) (by omega) (by decide)) (ok_gd h8 (ok_bnd (ok_bnd (ok_gd h8 (ok_bnd (ok_bnd ?_))))))
      rw [nI_clamp (n := k) (by omega), nI_1]
      refine ih (k + 1) n _ (by omega) (by omega) (fun j hj => ?_)
      by_cases g : j = k
      · rw [g, pk_us]
      · rw [pk_un g]; exact hu j (by omega)
  exact hz 8 0 fu u5 (by omega) (by omega) (fun j hj => absurd hj (Nat.not_lt_zero _))
set_option maxHeartbeats 400000 in
theorem l_cw3 (fu : Nat) (z w : Nat → Int32) {a b : Nat} (ha : a < 202) (hb : b < 202) : ∀ k n, k ≤ 8 → k < n → x_M_compareWork_3 fu z w n (nI a) (nI b) (nI k + (-1)) = some (cmpN (V (fun j => w (8 * a + j)) k) (V (fun j => w (8 * b + j)) k))
  | 0, n + 1, _, _ => rfl
  | k + 1, n + 1, hk, hn => by
    rw [pk_m1]
    show xb_M_compareWork_3 fu z w (x_M_compareWork_3 fu z w n) (nI a) (nI b) (nI k) = _
    unfold xb_M_compareWork_3
    rw [if_neg (nI_pos (by omega))]
    simp only [↓bnd_q]
    rw [show (8 : Int32) * nI a = nI (8 * a) from pk_mul 8 a, show (8 : Int32) * nI b = nI (8 * b) from pk_mul 8 b, nI_add, nI_add, gd_t (inb_nI (by omega) (by decide)), gd_t (inb_nI (by omega) (by decide)), gd_t (inb_nI (by omega) (by decide)), gd_t (inb_nI (by omega) (by decide)), nI_clamp (n := 8 * a + k) (by omega), nI_clamp (n := 8 * b + k) (by omega)]
    by_cases h : w (8 * a + k) = w (8 * b + k)
    · rw [if_pos h, l_cw3 fu z w ha hb k n (by omega) (by omega), cmp_eq (fun j => w (8 * a + j)) (fun j => w (8 * b + j)) k h]
    · rw [if_neg h, ig_cu]
      show some _ = _
      rw [← cmp_top (fun j => w (8 * a + j)) (fun j => w (8 * b + j)) k (fun q => h (U_inj q))]
set_option maxHeartbeats 400000 in
theorem v_M_compareWork (fu : Nat) (hfu : 9 ≤ fu) (z w : Nat → Int32) {a b : Nat} (ha : a < 202) (hb : b < 202) : x_M_compareWork fu z w (nI a) (nI b) = some (cmpN (Wa w a) (Wa w b)) := by
  unfold x_M_compareWork
  exact l_cw3 fu z w ha hb 8 fu (Nat.le_refl _) (by omega)
