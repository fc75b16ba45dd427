-- the reference: blocks by their ids; ancestors
set_option maxHeartbeats 400000 in
theorem fit_inj {x y : Int32} (hx : fits .byte (.int x) = true) (hy : fits .byte (.int y) = true) (h : By x = By y) : x = y := by
  have a1 := fit_I hx
  have a2 := i_toInt x
  have a3 := U_lt x
  have b1 := fit_I hy
  have b2 := i_toInt y
  have b3 := U_lt y
  have h : U x % 256 = U y % 256 := h
  refine U_inj ?_
  by_cases q : U x < 2 ^ 31
  · rw [if_pos q] at a2
    by_cases r : U y < 2 ^ 31
    · rw [if_pos r] at b2; omega
    · rw [if_neg r] at b2; omega
  · rw [if_neg q] at a2
    by_cases r : U y < 2 ^ 31
    · rw [if_pos r] at b2; omega
    · rw [if_neg r] at b2; omega
set_option maxHeartbeats 400000 in
theorem le4_i {p q : Nat → Int32} {a b : Nat} (hp : ∀ j, j < 4 → fits .byte (.int (p (a + j))) = true) (hq : ∀ j, j < 4 → fits .byte (.int (q (b + j))) = true) : leP p a 4 = leP q b 4 ↔ ∀ j, j < 4 → p (a + j) = q (b + j) := by
  constructor
  · intro h
    replace h : 0 + By (p (a + 0)) * 2 ^ (8 * 0) + By (p (a + 1)) * 2 ^ (8 * 1) + By (p (a + 2)) * 2 ^ (8 * 2) + By (p (a + 3)) * 2 ^ (8 * 3) = 0 + By (q (b + 0)) * 2 ^ (8 * 0) + By (q (b + 1)) * 2 ^ (8 * 1) + By (q (b + 2)) * 2 ^ (8 * 2) + By (q (b + 3)) * 2 ^ (8 * 3) := h
    have b0 := By_lt (p (a + 0))
    have b1 := By_lt (p (a + 1))
    have b2 := By_lt (p (a + 2))
    have b3 := By_lt (p (a + 3))
    have c0 := By_lt (q (b + 0))
    have c1 := By_lt (q (b + 1))
    have c2 := By_lt (q (b + 2))
    have c3 := By_lt (q (b + 3))
    intro j hj
    apply fit_inj (hp j hj) (hq j hj)
    have cs : j = 0 ∨ j = 1 ∨ j = 2 ∨ j = 3 := by omega
    rcases cs with rfl | rfl | rfl | rfl <;> omega
  · intro h
    show 0 + By (p (a + 0)) * 2 ^ (8 * 0) + By (p (a + 1)) * 2 ^ (8 * 1) + By (p (a + 2)) * 2 ^ (8 * 2) + By (p (a + 3)) * 2 ^ (8 * 3) = 0 + By (q (b + 0)) * 2 ^ (8 * 0) + By (q (b + 1)) * 2 ^ (8 * 1) + By (q (b + 2)) * 2 ^ (8 * 2) + By (q (b + 3)) * 2 ^ (8 * 3)
    rw [h 0 (by decide), h 1 (by decide), h 2 (by decide), h 3 (by decide)]
set_option maxHeartbeats 400000 in
/-- eight words alike are 32 bytes alike -/
theorem w8_i {p q : Nat → Int32} {a b : Nat} (hp : ∀ j, j < 32 → fits .byte (.int (p (a + j))) = true) (hq : ∀ j, j < 32 → fits .byte (.int (q (b + j))) = true) : fa (fun i => leP p (a + 4 * i) 4 = leP q (b + 4 * i) 4) 0 8 ↔ bl p a 32 = bl q b 32 := by
  constructor
  · intro h
    refine bl_c 32 a b fun i hi => ?_
    have := (le4_i (p := p) (q := q) (a := a + 4 * (i / 4)) (b := b + 4 * (i / 4)) (fun j hj => by rw [Nat.add_assoc]; exact hp _ (by omega)) (fun j hj => by rw [Nat.add_assoc]; exact hq _ (by omega))).mp (h (i / 4) (Nat.zero_le _) (by omega)) (i % 4) (by omega)
    rw [show a + 4 * (i / 4) + i % 4 = a + i from by omega, show b + 4 * (i / 4) + i % 4 = b + i from by omega] at this
    exact this
  · intro h k _ hk
    refine (le4_i (fun j hj => by rw [Nat.add_assoc]; exact hp _ (by omega)) (fun j hj => by rw [Nat.add_assoc]; exact hq _ (by omega))).mpr fun j hj => ?_
    rw [Nat.add_assoc, Nat.add_assoc]
    exact bl_i h (by omega)
def fnP (nb : Nat) (Q : Nat → Prop) (x : Int32) : Prop := (x = -1 ∧ ∀ k, k < nb → ¬ Q k) ∨ ∃ k, k < nb ∧ Q k ∧ (∀ j, j < k → ¬ Q j) ∧ x = nI k
set_option maxHeartbeats 400000 in
theorem l_fi16n (fu : Nat) (z bi : Nat → Int32) (n1 : Nat) (h1 : Nat → Int32) (k2 : Int32 → Int32 → Option Int32) (x2 : Int32) {k : Nat} (x5 : Int32) (P : Int32 → Prop) (h : ok (k2 x2 (nI (k + 1))) P) (n : Nat) (hn : 0 < n) : ok (x_M_find_16 fu z bi n1 h1 k2 n x2 (nI k) (0 : Int32) x5) P := by
  obtain ⟨n, rfl⟩ : ∃ m, n = m + 1 := ⟨n - 1, by omega⟩
  show ok (xb_M_find_16 fu z bi n1 h1 k2 (x_M_find_16 fu z bi n1 h1 k2 n) x2 (nI k) (0 : Int32) x5) _
  unfold xb_M_find_16 xb_M_find_66
  have e : ok (if (0 : Int32) = 0 then (bnd (nI k + (1 : Int32)) fun v1 => k2 x2 v1) else (some (nI k))) P := ok_t rfl (ok_bn (nI_1 k) h)
  exact ok_ite (fun _ => e) (fun _ => ok_t rfl e)
set_option maxHeartbeats 400000 in
theorem l_fi16 (fu : Nat) (z bi : Nat → Int32) (n1 : Nat) (hn1 : n1 < 2 ^ 31) (h1 : Nat → Int32) (k2 : Int32 → Int32 → Option Int32) {a k : Nat} {w : Nat → Nat} (ha : a + 32 ≤ n1) (hk : k < 202) (hw : ∀ i, i < 8 → bi (8 * k + i) = nI (w i) ∧ w i < 2 ^ 32) (P : Int32 → Prop) : ∀ r i n, i + r = 8 → r < n → (fa (fun j => w j = leP h1 (a + 4 * j) 4) i 8 → P (nI k)) → (¬ fa (fun j => w j = leP h1 (a + 4 * j) 4) i 8 → ok (k2 (nI a) (nI (k + 1))) P) → ok (x_M_find_16 fu z bi n1 h1 k2 n (nI a) (nI k) (1 : Int32) (nI i)) P := by
  intro r
  induction r with
  | zero =>
    intro i n hi hn hY hN
    obtain ⟨n, rfl⟩ : ∃ m, n = m + 1 := ⟨n - 1, by omega⟩
    show ok (xb_M_find_16 fu z bi n1 h1 k2 (x_M_find_16 fu z bi n1 h1 k2 n) (nI a) (nI k) (1 : Int32) (nI i)) _
    unfold xb_M_find_16 xb_M_find_66
    exact ok_t ((nI_leI (a := 8) (by omega) (by omega)).mpr (by omega)) (ok_f (by decide) (ok_some (hY (fa_e (by omega)))))
  | succ r ih =>
    intro i n hi hn hY hN
    obtain ⟨n, rfl⟩ : ∃ m, n = m + 1 := ⟨n - 1, by omega⟩
    show ok (xb_M_find_16 fu z bi n1 h1 k2 (x_M_find_16 fu z bi n1 h1 k2 n) (nI a) (nI k) (1 : Int32) (nI i)) _
    unfold xb_M_find_16 xb_M_find_58
    obtain ⟨w1, w2⟩ := hw i (by omega)
    refine ok_f (fun e => by have := (nI_leI (a := 8) (by omega) (by omega)).mp e; omega) (ok_f (by decide) (ok_bn (pk_mul 8 k) (ok_bn (nI_add _ _) (ok_gd (inb_nI (by omega) (by decide)) (ok_bn (by rw [nI_clamp (n := 8 * k + i) (by omega), w1]) (ok_bn (e' := nI (a + 4 * i)) ?_ ?_))))))
    · rw [show (4 : Int32) = nI 4 from rfl, pk_mul, nI_add]
    refine ok_bd1 (ok_of (m_small fu n1 hn1 h1 (by omega)) rfl) (fun v hv => ?_)
    subst hv
    have b := leP_lt h1 (a + 4 * i) 4
    by_cases q : w i = leP h1 (a + 4 * i) 4
    · refine ok_t (by rw [q]) (ok_bn (nI_1 i) ?_)
      have s := fa_s (Q := fun j => w j = leP h1 (a + 4 * j) 4) (j := i) (n := 8) q
      exact ih (i + 1) n (by omega) (by omega) (fun z => hY (s.mp z)) (fun z => hN fun y => z (s.mpr y))
    · refine ok_f (fun z => q ((nI_eq32 w2 b).mp z)) (ok_bn (nI_1 i) ?_)
      exact l_fi16n fu z bi n1 h1 k2 (nI a) (nI (i + 1)) P (hN (fa_n (Q := fun j => w j = leP h1 (a + 4 * j) 4) (by omega) q)) n (by omega)
set_option maxHeartbeats 400000 in
theorem v_M_find (fu : Nat) (hfu : 400 ≤ fu) (z bi : Nat → Int32) (n1 : Nat) (hn1 : n1 < 2 ^ 31) (h1 : Nat → Int32) {a nb : Nat} {idf : Nat → Nat → Int32} (ha : a + 32 ≤ n1) (hnb : nb ≤ 202) (h3 : z 3 = nI nb) (hid : ∀ k, k < nb → (∀ i, i < 8 → bi (8 * k + i) = nI (leP (idf k) (4 * i) 4)) ∧ ∀ j, j < 32 → fits .byte (.int (idf k j)) = true) (hh : ∀ j, j < 32 → fits .byte (.int (h1 (a + j))) = true) : ok (x_M_find fu z bi n1 h1 (nI a)) (fnP nb fun k => bl (idf k) 0 32 = bl h1 a 32) := by
  unfold x_M_find
  have A : ∀ r k n, k + r = nb → r < n → (∀ j, j < k → ¬ bl (idf j) 0 32 = bl h1 a 32) → ok (x_M_find_2 fu z bi n1 h1 n (nI a) (nI k)) (fnP nb fun k => bl (idf k) 0 32 = bl h1 a 32) := by
    intro r
    induction r with
    | zero =>
      intro k n hk hn hp
      obtain ⟨n, rfl⟩ : ∃ m, n = m + 1 := ⟨n - 1, by omega⟩
      show ok (xb_M_find_2 fu z bi n1 h1 (x_M_find_2 fu z bi n1 h1 n) (nI a) (nI k)) _
      unfold xb_M_find_2
      rw [h3]
      exact ok_t ((nI_leI (by omega) (by omega)).mpr (by omega)) (ok_some (Or.inl ⟨rfl, fun j hj => hp j (by omega)⟩))
    | succ r ih =>
      intro k n hk hn hp
      obtain ⟨n, rfl⟩ : ∃ m, n = m + 1 := ⟨n - 1, by omega⟩
      show ok (xb_M_find_2 fu z bi n1 h1 (x_M_find_2 fu z bi n1 h1 n) (nI a) (nI k)) _
      unfold xb_M_find_2
      rw [h3]
      obtain ⟨i1, i2⟩ := hid k (by omega)
      refine ok_f (fun e => by have := (nI_leI (by omega) (by omega)).mp e; omega) ?_
      have key := w8_i (p := idf k) (q := h1) (a := 0) (b := a) (fun j hj => by rw [Nat.zero_add]; exact i2 j hj) hh
      have e : fa (fun i => leP (idf k) (0 + 4 * i) 4 = leP h1 (a + 4 * i) 4) 0 8 ↔ fa (fun i => leP (idf k) (4 * i) 4 = leP h1 (a + 4 * i) 4) 0 8 := fa_c fun m _ _ => by rw [Nat.zero_add]
      refine l_fi16 fu z bi n1 hn1 h1 (x_M_find_2 fu z bi n1 h1 n) (w := fun i => leP (idf k) (4 * i) 4) ha (by omega) (fun i hi => ⟨i1 i hi, leP_lt _ _ 4⟩) _ 8 0 fu (by omega) (by omega) (fun y => Or.inr ⟨k, by omega, key.mp (e.mpr y), hp, rfl⟩) (fun y => ?_)
      refine ih (k + 1) n (by omega) (by omega) fun j hj => ?_
      by_cases q : j = k
      · rw [q]
        exact fun z => y (e.mp (key.mpr z))
      · exact hp j (by omega)
  exact A nb 0 fu (by omega) (by omega) (fun j hj => by omega)
def chI (nb : Nat) (par hgt : Nat → Nat) : Prop := 0 < nb ∧ hgt 0 = 0 ∧ ∀ k, 0 < k → k < nb → par k < k ∧ hgt k = hgt (par k) + 1
def up (par : Nat → Nat) : Nat → Nat → Nat
  | 0, k => k
  | n + 1, k => up par n (par k)
set_option maxHeartbeats 400000 in
theorem chI_0 {nb : Nat} {par hgt : Nat → Nat} (h : chI nb par hgt) {k : Nat} (hk : k < nb) (h0 : 0 < hgt k) : 0 < k := by
  by_cases q : k = 0
  · rw [q, h.2.1] at h0; omega
  · omega
set_option maxHeartbeats 400000 in
theorem chI_lt {nb : Nat} {par hgt : Nat → Nat} (h : chI nb par hgt) : ∀ n k, k ≤ n → k < nb → hgt k ≤ k
  | 0, k, h1, h2 => by
    rw [show k = 0 from by omega, h.2.1]
    omega
  | n + 1, k, h1, h2 => by
    by_cases q : k = 0
    · rw [q, h.2.1]; omega
    · have := h.2.2 k (by omega) h2
      have ih := chI_lt h n (par k) (by omega) (by omega)
      omega
set_option maxHeartbeats 400000 in
theorem up_b {nb : Nat} {par hgt : Nat → Nat} (h : chI nb par hgt) : ∀ n k, k < nb → n ≤ hgt k → up par n k < nb ∧ hgt (up par n k) + n = hgt k
  | 0, k, h1, h2 => ⟨h1, rfl⟩
  | n + 1, k, h1, h2 => by
    have := h.2.2 k (chI_0 h h1 (by omega)) h1
    have ih := up_b h n (par k) (by omega) (by omega)
    refine ⟨ih.1, ?_⟩
    show hgt (up par n (par k)) + (n + 1) = _
    omega
/-- the target of bits -/
def tgB (x : Int32) : Nat := Tg (U x / 2 ^ 24) (U x % 2 ^ 24)
set_option maxHeartbeats 400000 in
theorem tgB_e {x : Int32} {e m : Nat} (h : gb x e m) : tgB x = Tg e m := by
  obtain ⟨h1, h2, h3, h4, h5⟩ := h
  have e1 : U x = e * 2 ^ 24 + m := by rw [h1]; exact U_nI (by omega)
  unfold tgB
  rw [e1, show (e * 2 ^ 24 + m) / 2 ^ 24 = e from by omega, show (e * 2 ^ 24 + m) % 2 ^ 24 = m from by omega]
def tkT (a b : Nat) : Nat := max 1200 (min 19200 (a - b))
/-- the bits wanted behind block b -/
def wnQ (par hgt tim : Nat → Nat) (bit : Nat → Int32) (b : Nat) (y : Int32) : Prop := ((hgt b + 1) % 8 ≠ 0 ∧ y = bit b) ∨ ((hgt b + 1) % 8 = 0 ∧ bsR (tgB (bit b) * tkT (tim b) (tim (up par 7 b)) / 4800) y)
set_option maxHeartbeats 400000 in
theorem wnQ_u {par hgt tim : Nat → Nat} {bit : Nat → Int32} {b : Nat} {y y' : Int32} (h : wnQ par hgt tim bit b y) (h' : wnQ par hgt tim bit b y') : y = y' := by
  rcases h with ⟨a1, a2⟩ | ⟨a1, a2⟩ <;> rcases h' with ⟨b1, b2⟩ | ⟨b1, b2⟩
  · rw [a2, b2]
  · exact absurd b1 a1
  · exact absurd a1 b1
  · exact bsR_u a2 b2
