-- n times G, as numbers
def mP (a b : Nat) : Nat := a * b % pP
def sP (a b : Nat) : Nat := (a + (pP - b % pP)) % pP
set_option maxHeartbeats 400000 in
theorem c_mP {F : Type} [Lean.Grind.Field F] {c : Int → F} (hc : cH pP c) (a b : Nat) : c ((mP a b : Nat) : Int) = c (a : Int) * c (b : Int) := c_tm hc a b
set_option maxHeartbeats 400000 in
theorem c_sP {F : Type} [Lean.Grind.Field F] {c : Int → F} (hc : cH pP c) (a b : Nat) : c ((sP a b : Nat) : Int) = c (a : Int) - c (b : Int) := by
  unfold sP
  rw [c_mn hc (Nat.mod_lt _ pP_0), c_mod hc]
set_option maxHeartbeats 400000 in
theorem c_k3 {F : Type} [Lean.Grind.Field F] {c : Int → F} (hc : cH pP c) : c ((3 : Nat) : Int) = 3 := c_3 hc
set_option maxHeartbeats 400000 in
theorem c_k2 {F : Type} [Lean.Grind.Field F] {c : Int → F} (hc : cH pP c) : c ((2 : Nat) : Int) = 2 := c_2 hc
set_option maxHeartbeats 400000 in
theorem c_k8 {F : Type} [Lean.Grind.Field F] {c : Int → F} (hc : cH pP c) : c ((8 : Nat) : Int) = 8 := c_8 hc
set_option maxHeartbeats 400000 in
theorem c_k4 {F : Type} [Lean.Grind.Field F] {c : Int → F} (hc : cH pP c) : c ((4 : Nat) : Int) = 4 := c_4 hc
def jX (X Y : Nat) : Nat := sP (mP (mP 3 (mP X X)) (mP 3 (mP X X))) (mP 8 (mP X (mP Y Y)))
def jD (t : Nat × Nat × Nat) : Nat × Nat × Nat := (jX t.1 t.2.1, sP (mP (mP 3 (mP t.1 t.1)) (sP (mP 4 (mP t.1 (mP t.2.1 t.2.1))) (jX t.1 t.2.1))) (mP 8 (mP (mP t.2.1 t.2.1) (mP t.2.1 t.2.1))), mP 2 (mP t.2.1 t.2.2))
def aH (X2 : Nat) (t : Nat × Nat × Nat) : Nat := sP (mP X2 (mP t.2.2 t.2.2)) t.1
def aR (Y2 : Nat) (t : Nat × Nat × Nat) : Nat := sP (mP Y2 (mP (mP t.2.2 t.2.2) t.2.2)) t.2.1
def aX (H R A : Nat) : Nat := sP (sP (mP R R) (mP (mP H H) H)) (mP 2 (mP A (mP H H)))
def jAd (X2 Y2 : Nat) (t : Nat × Nat × Nat) : Option (Nat × Nat × Nat) :=
  if aH X2 t = 0 then none else some (aX (aH X2 t) (aR Y2 t) t.1, sP (mP (aR Y2 t) (sP (mP t.1 (mP (aH X2 t) (aH X2 t))) (aX (aH X2 t) (aR Y2 t) t.1))) (mP t.2.1 (mP (mP (aH X2 t) (aH X2 t)) (aH X2 t))), mP t.2.2 (aH X2 t))
def jB (X2 Y2 : Nat) : List Bool → Nat × Nat × Nat → Option (Nat × Nat × Nat)
  | [], t => some t
  | false :: bs, t => jB X2 Y2 bs (jD t)
  | true :: bs, t => (jAd X2 Y2 (jD t)).bind (jB X2 Y2 bs)
def bv : List Bool → Nat → Nat
  | [], n => n
  | false :: bs, n => bv bs (2 * n)
  | true :: bs, n => bv bs (2 * n + 1)
set_option maxHeartbeats 400000 in
theorem jD_ok {F : Type} [Lean.Grind.Field F] [DecidableEq F] {c : Int → F} (hc : cH pP c) {t : Nat × Nat × Nat} {R : Option (F × F)} (hR : onC (c 7) R) (h : jr (c (t.1 : Int)) (c (t.2.1 : Int)) (c (t.2.2 : Int)) R) : jr (c ((jD t).1 : Int)) (c ((jD t).2.1 : Int)) (c ((jD t).2.2 : Int)) (ea R R) := by
  have hY : c (t.2.1 : Int) ≠ 0 := by
    obtain ⟨hZ, p, q, rfl, -, e⟩ := h
    rw [e]
    have := noy hc hR
    exact f_m0 (f_m0 (f_m0 this hZ) hZ) hZ
  have eX : c ((jD t).1 : Int) = 3 * (c (t.1 : Int) * c (t.1 : Int)) * (3 * (c (t.1 : Int) * c (t.1 : Int))) - 8 * (c (t.1 : Int) * (c (t.2.1 : Int) * c (t.2.1 : Int))) := by
    show c ((jX t.1 t.2.1 : Nat) : Int) = _
    unfold jX
    simp only [c_sP hc, c_mP hc, c_k3 hc, c_k8 hc]
  refine jr_dbl (k_2 hc) h hY ?_ eX ?_
  · show c ((mP 2 (mP t.2.1 t.2.2) : Nat) : Int) = _
    simp only [c_mP hc, c_k2 hc]
  · show c ((sP (mP (mP 3 (mP t.1 t.1)) (sP (mP 4 (mP t.1 (mP t.2.1 t.2.1))) (jD t).1)) (mP 8 (mP (mP t.2.1 t.2.1) (mP t.2.1 t.2.1))) : Nat) : Int) = _
    simp only [c_sP hc, c_mP hc, c_k3 hc, c_k8 hc, c_k4 hc]
set_option maxHeartbeats 400000 in
theorem sP_lt (a b : Nat) : sP a b < pP := Nat.mod_lt _ pP_0
set_option maxHeartbeats 400000 in
theorem jA_ok {F : Type} [Lean.Grind.Field F] [DecidableEq F] {c : Int → F} (hc : cH pP c) {X2 Y2 : Nat} {t t' : Nat × Nat × Nat} {R : Option (F × F)} (h : jr (c (t.1 : Int)) (c (t.2.1 : Int)) (c (t.2.2 : Int)) R) (e : jAd X2 Y2 t = some t') : jr (c (t'.1 : Int)) (c (t'.2.1 : Int)) (c (t'.2.2 : Int)) (ea R (some (c (X2 : Int), c (Y2 : Int)))) := by
  unfold jAd at e
  by_cases g : aH X2 t = 0
  · rw [if_pos g] at e; exact absurd e (by simp)
  rw [if_neg g] at e
  have e := (Option.some.inj e).symm
  subst e
  have hH : c ((aH X2 t : Nat) : Int) ≠ 0 := c_ne0 hc (sP_lt _ _) (Nat.pos_of_ne_zero g)
  have eH : c ((aH X2 t : Nat) : Int) = c (X2 : Int) * (c (t.2.2 : Int) * c (t.2.2 : Int)) - c (t.1 : Int) := by
    unfold aH
    simp only [c_sP hc, c_mP hc]
  have eR : c ((aR Y2 t : Nat) : Int) = c (Y2 : Int) * (c (t.2.2 : Int) * c (t.2.2 : Int) * c (t.2.2 : Int)) - c (t.2.1 : Int) := by
    unfold aR
    simp only [c_sP hc, c_mP hc]
  have eX : c ((aX (aH X2 t) (aR Y2 t) t.1 : Nat) : Int) = c ((aR Y2 t : Nat) : Int) * c ((aR Y2 t : Nat) : Int) - c ((aH X2 t : Nat) : Int) * c ((aH X2 t : Nat) : Int) * c ((aH X2 t : Nat) : Int) - 2 * (c (t.1 : Int) * (c ((aH X2 t : Nat) : Int) * c ((aH X2 t : Nat) : Int))) := by
    unfold aX
    simp only [c_sP hc, c_mP hc, c_k2 hc]
  refine jr_add (Z2 := 1) (A := c (t.1 : Int)) (B := c (t.2.1 : Int)) (H := c ((aH X2 t : Nat) : Int)) (R := c ((aR Y2 t : Nat) : Int)) h (jr_1 (f_10 hc) rfl) (by grind) (by grind) eH eR hH ?_ eX ?_
  · show c ((mP t.2.2 (aH X2 t) : Nat) : Int) = _
    rw [c_mP hc]
    grind
  · show c ((sP (mP (aR Y2 t) (sP (mP t.1 (mP (aH X2 t) (aH X2 t))) (aX (aH X2 t) (aR Y2 t) t.1))) (mP t.2.1 (mP (mP (aH X2 t) (aH X2 t)) (aH X2 t))) : Nat) : Int) = c ((aR Y2 t : Nat) : Int) * (c (t.1 : Int) * (c ((aH X2 t : Nat) : Int) * c ((aH X2 t : Nat) : Int)) - c ((aX (aH X2 t) (aR Y2 t) t.1 : Nat) : Int)) - c (t.2.1 : Int) * (c ((aH X2 t : Nat) : Int) * c ((aH X2 t : Nat) : Int) * c ((aH X2 t : Nat) : Int))
    simp only [c_sP hc, c_mP hc]
set_option maxHeartbeats 400000 in
theorem jB_ok {F : Type} [Lean.Grind.Field F] [DecidableEq F] {c : Int → F} (hc : cH pP c) {X2 Y2 : Nat} (hG : onC (c 7) (some (c (X2 : Int), c (Y2 : Int)))) : ∀ (bs : List Bool) (n : Nat) (t t' : Nat × Nat × Nat), jr (c (t.1 : Int)) (c (t.2.1 : Int)) (c (t.2.2 : Int)) (sm (some (c (X2 : Int), c (Y2 : Int))) n) → jB X2 Y2 bs t = some t' → jr (c (t'.1 : Int)) (c (t'.2.1 : Int)) (c (t'.2.2 : Int)) (sm (some (c (X2 : Int), c (Y2 : Int))) (bv bs n))
  | [], n, t, t', h, e => by
    have := Option.some.inj e
    subst this
    exact h
  | false :: bs, n, t, t', h, e => by
    refine jB_ok hc hG bs (2 * n) (jD t) t' ?_ e
    rw [sm_2 hc hG]
    exact jD_ok hc (sm_on hc hG n) h
  | true :: bs, n, t, t', h, e => by
    have e' : (jAd X2 Y2 (jD t)).bind (jB X2 Y2 bs) = some t' := e
    obtain ⟨t1, e1, e2⟩ := Option.bind_eq_some_iff.mp e'
    refine jB_ok hc hG bs (2 * n + 1) t1 t' ?_ e2
    have h2 := jD_ok hc (sm_on hc hG n) h
    rw [← sm_2 hc hG] at h2
    exact jA_ok hc h2 e1
set_option maxHeartbeats 400000 in
/-- from Jacobi's to plain coordinates -/
theorem jr_pl {F : Type} [Lean.Grind.Field F] {X Y Z x y : F} {R : Option (F × F)} (h : jr X Y Z R) (hx : X = x * (Z * Z)) (hy : Y = y * (Z * Z * Z)) : R = some (x, y) := by
  obtain ⟨hZ, p, q, rfl, e1, e2⟩ := h
  have h1 : p = x := by grind
  have h2 : q = y := by grind
  rw [h1, h2]
def jC (X2 Y2 x y : Nat) (bs : List Bool) : Bool := match jB X2 Y2 bs (X2, Y2, 1) with
  | none => false
  | some t => decide (t.1 = mP x (mP t.2.2 t.2.2)) && decide (t.2.1 = mP y (mP (mP t.2.2 t.2.2) t.2.2))
set_option maxHeartbeats 400000 in
theorem jC_ok {F : Type} [Lean.Grind.Field F] [DecidableEq F] {c : Int → F} (hc : cH pP c) {X2 Y2 x y : Nat} (hG : onC (c 7) (some (c (X2 : Int), c (Y2 : Int)))) {bs : List Bool} (h : jC X2 Y2 x y bs = true) : sm (some (c (X2 : Int), c (Y2 : Int))) (bv bs 1) = some (c (x : Int), c (y : Int)) := by
  unfold jC at h
  cases e : jB X2 Y2 bs (X2, Y2, 1) with
  | none => rw [e] at h; exact Bool.noConfusion h
  | some t =>
    rw [e] at h
    replace h : (decide (t.1 = mP x (mP t.2.2 t.2.2)) && decide (t.2.1 = mP y (mP (mP t.2.2 t.2.2) t.2.2))) = true := h
    rw [Bool.and_eq_true] at h
    have h1 := of_decide_eq_true h.1
    have h2 := of_decide_eq_true h.2
    have := jB_ok hc hG bs 1 (X2, Y2, 1) t (by rw [sm_1]; exact jr_1 (f_10 hc) (c_1 hc)) e
    refine jr_pl this ?_ ?_
    · rw [h1]; simp only [c_mP hc]
    · rw [h2]; simp only [c_mP hc]
def bN1 : List Bool := [true, true, true, true, true, true, true, true, true, true, true, true, true, true, true, true, true, true, true, true, true, true, true, true, true, true, true, true, true, true, true, true, true, true, true, true, true, true, true, true, true, true, true, true, true, true, true, true, true, true, true, true, true, true, true, true, true, true, true, true, true, true, true, true, true, true, true, true, true, true, true, true, true, true, true, true, true, true, true, true, true, true, true, true, true, true, true, true, true, true, true, true, true, true, true, true, true, true, true, true, true, true, true, true, true, true, true, true, true, true, true, true, true, true, true, true, true, true, true, true, true, true, true, true, true, true, false, true, false, true, true, true, false, true, false, true, false, true, false, true, true, true, false, true, true, false, true, true, true, false, false, true, true, true, false, false, true, true, false, true, false, true, false, true, true, true, true, false, true, false, false, true, false, false, false, true, false, true, false, false, false, false, false, false, false, true, true, true, false, true, true, true, false, true, true, true, true, true, true, true, true, false, true, false, false, true, false, false, true, false, true, true, true, true, false, true, false, false, false, true, true, false, false, true, true, false, true, false, false, false, false, false, false, true, true, false, true, true, false, false, true, false, false, false, false, false, true, false, true, false, false, false, false, false, false]
set_option maxHeartbeats 400000 in
theorem bN1_v : bv bN1 1 = nN - 1 := by decide +kernel
set_option maxHeartbeats 400000 in
theorem gN1 : jC (V k24 8) (V k25 8) (V k24 8) (sP 0 (V k25 8)) bN1 = true := by decide +kernel
set_option maxHeartbeats 400000 in
theorem gN {F : Type} [Lean.Grind.Field F] [DecidableEq F] {c : Int → F} (hc : cH pP c) : sm (gG c) nN = none := by
  have h := jC_ok hc (gG_on hc) gN1
  rw [bN1_v] at h
  have e : nN = (nN - 1) + 1 := by decide +kernel
  rw [e]
  show ea (sm (gG c) (nN - 1)) (gG c) = none
  have h' : sm (gG c) (nN - 1) = some (c ((V k24 8 : Nat) : Int), c ((sP 0 (V k25 8) : Nat) : Int)) := h
  rw [h']
  refine ea_0 ⟨rfl, ?_⟩
  rw [c_sP hc, show ((0 : Nat) : Int) = 0 from rfl, c_0 hc]
  grind
def tvN (i : Nat) : Nat := ((tb_0.getD i 0).toInt + (tb_0.getD (i + 1) 0).toInt * 2 ^ 26 + (tb_0.getD (i + 2) 0).toInt * 2 ^ 52 + (tb_0.getD (i + 3) 0).toInt * 2 ^ 78 + (tb_0.getD (i + 4) 0).toInt * 2 ^ 104 + (tb_0.getD (i + 5) 0).toInt * 2 ^ 130 + (tb_0.getD (i + 6) 0).toInt * 2 ^ 156 + (tb_0.getD (i + 7) 0).toInt * 2 ^ 182 + (tb_0.getD (i + 8) 0).toInt * 2 ^ 208 + (tb_0.getD (i + 9) 0).toInt * 2 ^ 234).toNat
set_option maxHeartbeats 400000 in
theorem tq_1 : ∀ i, i < 8 → jC (V k24 8) (V k25 8) (tvN (20 * i)) (tvN (20 * i + 10)) ([[], [true], [false, true], [true, true], [false, false, true], [false, true, true], [true, false, true], [true, true, true]].getD i []) = true := by decide +kernel
set_option maxHeartbeats 400000 in
theorem tq_2 : ∀ i, i < 8 → bv ([[], [true], [false, true], [true, true], [false, false, true], [false, true, true], [true, false, true], [true, true, true]].getD i []) 1 = 2 * i + 1 := by decide +kernel
set_option maxHeartbeats 400000 in
theorem tq_3 : ∀ i, i < 8 → Tv (tbx i) 10 = (tvN (20 * i) : Int) ∧ Tv (tby i) 10 = (tvN (20 * i + 10) : Int) := by decide +kernel
set_option maxHeartbeats 400000 in
theorem tq_4 : ∀ i, i < 8 → ∀ j, j < 10 → (-69206016 ≤ (tbx i j).toInt ∧ (tbx i j).toInt ≤ 69206016) ∧ (-69206016 ≤ (tby i j).toInt ∧ (tby i j).toInt ≤ 69206016) := by decide +kernel
set_option maxHeartbeats 400000 in
theorem tb_sm {F : Type} [Lean.Grind.Field F] [DecidableEq F] {c : Int → F} (hc : cH pP c) {i : Nat} (hi : i < 8) : sm (gG c) (2 * i + 1) = some (c (Tv (tbx i) 10), c (Tv (tby i) 10)) := by
  have h := jC_ok hc (gG_on hc) (tq_1 i hi)
  rw [tq_2 i hi] at h
  rw [(tq_3 i hi).1, (tq_3 i hi).2]
  exact h
set_option maxHeartbeats 400000 in
theorem tb_jI {F : Type} [Lean.Grind.Field F] [DecidableEq F] {c : Int → F} (hc : cH pP c) {i : Nat} (hi : i < 8) {x y z : Nat → Int64} (h : ∀ j, j < 10 → x j = tbx i j ∧ y j = tby i j) (hz : Tv z 10 = 1 ∧ sz z 2) : jI c 0 1 x y z (sm (gG c) (2 * i + 1)) := by
  refine ⟨Or.inr rfl, Or.inl ⟨rfl, ?_, ?_, hz.2, fun _ => by rw [hz.1, c_1 hc], ?_⟩⟩
  · intro j hj
    have := (tq_4 i hi j hj).1
    rw [(h j hj).1]
    generalize (tbx i j).toInt = a at *
    omega
  · intro j hj
    have := (tq_4 i hi j hj).2
    rw [(h j hj).2]
    generalize (tby i j).toInt = a at *
    omega
  · rw [tb_sm hc hi, Tv_c (fun j hj => (h j hj).1), Tv_c (fun j hj => (h j hj).2), hz.1]
    exact jr_1 (f_10 hc) (c_1 hc)
