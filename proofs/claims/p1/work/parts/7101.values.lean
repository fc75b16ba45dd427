-- ===== one call on a fresh object: the values
theorem lq_gd {β : Type} {b : Bool} {x : Option β} {r : β} (h : b = true) (hx : x = some r) : gd b x = some r := by rw [show gd b x = x from if_pos h]; exact hx
theorem lq_if {P : Prop} [Decidable P] {β : Type} {a b : Option β} {r : β} (h1 : P → a = some r) (h2 : ¬ P → b = some r) : (if P then a else b) = some r := by
  by_cases h : P
  · rw [if_pos h]; exact h1 h
  · rw [if_neg h]; exact h2 h
theorem lq_us {α : Type} (f : Nat → Int32) (k : Nat) (v : Int32) : upd f k v k = v := by simp [upd]
theorem lq_un (f : Nat → Int32) {k j : Nat} (v : Int32) (h : j ≠ k) : upd f k v j = f j := by simp [upd, h]
theorem lq_inb {t n : Nat} (h : t < n) (hn : n < 2 ^ 31) : inb (nI t) n = true := decide_eq_true (vp_in_nI h hn)
def lq_Z : Nat → Int32 := fun _ => 0
/-- the reference's numbers, fresh -/
def lq_z : Nat → Int32 := fun j => ([0, 0, 0, 1, 0, 0, 0, 0, 0, 0, 0, 0, 0, 0, 0, 0, 0, 0, 0, 0] : List Int32).getD j 0
theorem lq_four1 (fu n : Nat) (v s : Int32) (z row : Nat → Int32) (r : Nat) (hr : r < 3000) (hz : z 0 = nI r) (hs : ¬ s < 0) : ∃ row', x_M_four_3 fu (n + 1) v s z row = x_M_four_3 fu n v (s + (-8 : Int32)) (upd z 0 (nI (r + 1))) row' := by
  refine ⟨upd row (z 0).toNatClampNeg (vp_nar .byte ((v >>> (s &&& 31)).toInt8.toInt32)), ?_⟩
  show xb_M_four_3 fu (x_M_four_3 fu n) v s z row = _
  unfold xb_M_four_3
  rw [if_neg hs, nI_succ, ← hz]
  show gd (inb (z 0) 3000) _ = _
  rw [show gd (inb (z 0) 3000) _ = _ from if_pos (by rw [hz]; exact lq_inb hr (by decide))]
  rfl
theorem lq_four (fu : Nat) (hfu : 5 ≤ fu) (v : Int32) (z row : Nat → Int32) (r : Nat) (hr : r + 4 ≤ 3000) (hz : z 0 = nI r) : ∃ z' row', x_M_four fu v z row = some (z', row') ∧ z' 0 = nI (r + 4) ∧ z' 2 = z 2 := by
  obtain ⟨n, rfl⟩ : ∃ n, fu = n + 5 := ⟨fu - 5, by omega⟩
  unfold x_M_four
  obtain ⟨r1, h1⟩ := lq_four1 (n + 5) (n + 4) v 24 z row r (by omega) hz (by decide)
  obtain ⟨r2, h2⟩ := lq_four1 (n + 5) (n + 3) v (24 + -8) (upd z 0 (nI (r + 1))) r1 (r + 1) (by omega) (by simp [upd]) (by decide)
  obtain ⟨r3, h3⟩ := lq_four1 (n + 5) (n + 2) v (24 + -8 + -8) (upd (upd z 0 (nI (r + 1))) 0 (nI (r + 2))) r2 (r + 2) (by omega) (by simp [upd]) (by decide)
  obtain ⟨r4, h4⟩ := lq_four1 (n + 5) (n + 1) v (24 + -8 + -8 + -8) (upd (upd (upd z 0 (nI (r + 1))) 0 (nI (r + 2))) 0 (nI (r + 3))) r3 (r + 3) (by omega) (by simp [upd]) (by decide)
  refine ⟨upd (upd (upd (upd z 0 (nI (r + 1))) 0 (nI (r + 2))) 0 (nI (r + 3))) 0 (nI (r + 4)), r4, ?_, by simp [upd], by simp [upd]⟩
  rw [h1, h2, h3, h4]
  show xb_M_four_3 (n + 5) (x_M_four_3 (n + 5) n) v _ _ _ = _
  unfold xb_M_four_3
  rw [if_pos (by decide)]
theorem lq_bnd {α β : Type} (e : α) (k : α → β) : bnd e k = k e := rfl
theorem lq_b1 {α β : Type} {x : Option α} {r : α} {k : α → Option β} (h : x = some r) : bd1 x k = k r := by rw [h]; rfl
theorem lq_b2 {α1 α2 β : Type} {x : Option (α1 × α2)} {r1 : α1} {r2 : α2} {k : α1 → α2 → Option β} (h : x = some (r1, r2)) : bd2 x k = k r1 r2 := by rw [h]; rfl
theorem lq_b3 {α1 α2 α3 β : Type} {x : Option (α1 × α2 × α3)} {r1 : α1} {r2 : α2} {r3 : α3} {k : α1 → α2 → α3 → Option β} (h : x = some (r1, r2, r3)) : bd3 x k = k r1 r2 r3 := by rw [h]; rfl
theorem lq_b4 {α1 α2 α3 α4 β : Type} {x : Option (α1 × α2 × α3 × α4)} {r1 : α1} {r2 : α2} {r3 : α3} {r4 : α4} {k : α1 → α2 → α3 → α4 → Option β} (h : x = some (r1, r2, r3, r4)) : bd4 x k = k r1 r2 r3 r4 := by rw [h]; rfl
theorem lq_Mfeed (fu : Nat) (hfu : 5 ≤ fu) (a b c d e : Int32) : ∃ z' row', x_M_feed fu a b c d e lq_z lq_Z = some (20, z', row') ∧ z' 2 = 0 := by
  unfold x_M_feed
  rw [lq_bnd, if_pos (by decide)]
  unfold xb_M_feed_19
  rw [lq_bnd, if_pos (by decide)]
  obtain ⟨z1, r1, h1, p1, q1⟩ := lq_four fu hfu a (upd lq_z 2 0) lq_Z 0 (by decide) (by decide)
  obtain ⟨z2, r2, h2, p2, q2⟩ := lq_four fu hfu b z1 r1 4 (by decide) p1
  obtain ⟨z3, r3, h3, p3, q3⟩ := lq_four fu hfu c z2 r2 8 (by decide) p2
  obtain ⟨z4, r4, h4, p4, q4⟩ := lq_four fu hfu d z3 r3 12 (by decide) p3
  obtain ⟨z5, r5, h5, p5, q5⟩ := lq_four fu hfu e z4 r4 16 (by decide) p4
  refine ⟨z5, r5, ?_, ?_⟩
  · rw [lq_b2 h1, lq_b2 h2, lq_b2 h3, lq_b2 h4, lq_b2 h5, p5]; rfl
  · rw [q5, q4, q3, q2, q1]; decide
theorem lq_b7 {α1 α2 α3 α4 α5 α6 α7 β : Type} {x : Option (α1 × α2 × α3 × α4 × α5 × α6 × α7)} {r : α1 × α2 × α3 × α4 × α5 × α6 × α7} {k : α1 → α2 → α3 → α4 → α5 → α6 → α7 → Option β} (h : x = some r) : bd7 x k = k r.1 r.2.1 r.2.2.1 r.2.2.2.1 r.2.2.2.2.1 r.2.2.2.2.2.1 r.2.2.2.2.2.2 := by rw [h]; rfl
theorem lq_b2' {α1 α2 β : Type} {x : Option (α1 × α2)} {r : α1 × α2} {k : α1 → α2 → Option β} (h : x = some r) : bd2 x k = k r.1 r.2 := by rw [h]; rfl
theorem lq_get {α : Type} {x : Option α} (d : α) (h : x.isSome = true) : x = some (x.getD d) := by
  cases x with
  | none => cases h
  | some a => rfl
def lq_p : Nat → Int32 := upd (fun _ => 0) (0 : Int32).toNatClampNeg (-1 : Int32)
def lq_ti : Nat → Int32 := upd (fun _ => 0) (0 : Int32).toNatClampNeg (1000000 : Int32)
def lq_bi : Nat → Int32 := upd (fun _ => 0) (0 : Int32).toNatClampNeg (545259519 : Int32)
def lq_one : Nat → Int32 := upd (upd (upd (upd (upd (upd (upd (upd (fun _ => 0) (0 : Int32).toNatClampNeg (1 : Int32)) (1 : Int32).toNatClampNeg (0 : Int32)) (2 : Int32).toNatClampNeg (0 : Int32)) (3 : Int32).toNatClampNeg (0 : Int32)) (4 : Int32).toNatClampNeg (0 : Int32)) (5 : Int32).toNatClampNeg (0 : Int32)) (6 : Int32).toNatClampNeg (0 : Int32)) (7 : Int32).toNatClampNeg (0 : Int32)
def lq_t0 : Option (Int32 × (Nat → Int32)) := x_M_target 33000 lq_z (lq_bi (0 : Int32).toNatClampNeg) (fun _ => 0)
def lq_t : Int32 × (Nat → Int32) := lq_t0.getD (0, fun _ => 0)
theorem lq_t1 : lq_t0 = some lq_t := lq_get _ (by decide +kernel)
def lq_w0 : Option ((Nat → Int32) × (Nat → Int32) × (Nat → Int32) × (Nat → Int32) × (Nat → Int32) × (Nat → Int32) × (Nat → Int32)) := x_M_worth 33000 lq_z lq_p lq_t.2 lq_one (0 : Int32) (fun _ => 0) (fun _ => 0) (fun _ => 0) (fun _ => 0) (fun _ => 0) (fun _ => 0) (fun _ => 0)
def lq_w : (Nat → Int32) × (Nat → Int32) × (Nat → Int32) × (Nat → Int32) × (Nat → Int32) × (Nat → Int32) × (Nat → Int32) := lq_w0.getD (lq_Z, lq_Z, lq_Z, lq_Z, lq_Z, lq_Z, lq_Z)
theorem lq_w2 : (lq_w0.map fun r => (r.1 0, r.1 1)) = some (2, 0) := by decide +kernel
theorem lq_w1 : lq_w0 = some lq_w := lq_get _ (by
  cases h : lq_w0 with
  | none => have := lq_w2; rw [h] at this; cases this
  | some _ => rfl)
theorem lq_w3 : lq_w.1 0 = 2 ∧ lq_w.1 1 = 0 := by
  have := lq_w2
  rw [lq_w1, Option.map_some] at this
  injection this with h
  injection h with h1 h2
  exact ⟨h1, h2⟩
def lq_c0 : Option ((Nat → Int32) × (Nat → Int32)) := x_M_clear 33000 lq_z (fun _ => 0) (fun _ => 0)
def lq_c : (Nat → Int32) × (Nat → Int32) := lq_c0.getD (lq_Z, lq_Z)
theorem lq_clr (fu : Nat) : ∀ (d n a : Nat) (u0 u1 : Nat → Int32), a + d = 32768 → d < n → 0 < fu → (x_M_clear_2 fu lq_z n (nI a) u0 u1).isSome = true
  | 0, n, a, u0, u1, h, hn, hf => by
    obtain ⟨n', rfl⟩ : ∃ n', n = n' + 1 := ⟨n - 1, by omega⟩
    obtain ⟨f', rfl⟩ : ∃ f', fu = f' + 1 := ⟨fu - 1, by omega⟩
    show (xb_M_clear_2 _ lq_z (x_M_clear_2 _ lq_z n') (nI a) u0 u1).isSome = true
    unfold xb_M_clear_2
    have e0 : (32768 : Int32) = nI 32768 := by decide
    rw [e0, if_pos (nI_le (by omega) (by omega))]
    show (xb_M_clear_23 _ lq_z (x_M_clear_23 _ lq_z f') 0 u0 u1).isSome = true
    unfold xb_M_clear_23
    rw [if_pos (by decide)]
    rfl
  | d + 1, n, a, u0, u1, h, hn, hf => by
    obtain ⟨n', rfl⟩ : ∃ n', n = n' + 1 := ⟨n - 1, by omega⟩
    show (xb_M_clear_2 _ lq_z (x_M_clear_2 _ lq_z n') (nI a) u0 u1).isSome = true
    unfold xb_M_clear_2
    have e0 : (32768 : Int32) = nI 32768 := by decide
    rw [e0, if_neg (nI_ge (by omega) (by omega))]
    rw [show ∀ x : Option ((Nat → Int32) × (Nat → Int32)), gd (inb (nI a) 32768) x = x from fun x => if_pos (lq_inb (by omega) (by decide)), lq_bnd, lq_bnd, ← nI_succ]
    exact lq_clr fu d n' (a + 1) _ _ (by omega) (by omega) hf
theorem lq_c1 : lq_c0 = some lq_c := lq_get _ (by
  unfold lq_c0 x_M_clear
  have e0 : (0 : Int32) = nI 0 := by decide
  rw [e0]
  exact lq_clr 33000 32768 33000 0 (fun _ => 0) (fun _ => 0) (by omega) (by omega) (by omega))
theorem lq_t4 : x_M_target 33000 lq_z (lq_bi (0 : Int32).toNatClampNeg) (fun _ => 0) = some lq_t := by
  have := lq_t1
  unfold lq_t0 at this
  exact this
theorem lq_w4 : x_M_worth 33000 lq_z lq_p lq_t.2 lq_one (0 : Int32) (fun _ => 0) (fun _ => 0) (fun _ => 0) (fun _ => 0) (fun _ => 0) (fun _ => 0) (fun _ => 0) = some lq_w := by
  have := lq_w1
  unfold lq_w0 at this
  exact this
theorem lq_c4 : x_M_clear 33000 lq_z (fun _ => 0) (fun _ => 0) = some lq_c := by
  have := lq_c1
  unfold lq_c0 at this
  exact this
theorem lq_Minit : x_M_init 33000 0 0 0 0 0 0 0 0 0 0 0 0 0 0 0 0 0 0 0 0 = some (lq_z, lq_p, lq_ti, lq_bi, lq_w.1, lq_c.1, lq_c.2, lq_t.2, lq_one, lq_w.2.1, lq_w.2.2.1, lq_w.2.2.2.1, lq_w.2.2.2.2.1, lq_w.2.2.2.2.2.1, lq_w.2.2.2.2.2.2) := by
  unfold x_M_init xb_M_init_57 xb_M_init_111 xb_M_init_165 xb_M_init_219 xb_M_init_273 xb_M_init_324 xb_M_init_406 xb_M_init_454 xb_M_init_502 xb_M_init_550 xb_M_init_598 xb_M_init_648 xb_M_init_699
  rw [lq_bnd, lq_bnd, lq_bnd, lq_bnd, lq_bnd, lq_bnd, lq_bnd, lq_bnd, lq_bnd, lq_bnd, lq_bnd, lq_bnd, lq_bnd]
  refine (lq_b2' lq_t4).trans ?_
  refine (lq_b7 lq_w4).trans ?_
  exact lq_b2' lq_c4
