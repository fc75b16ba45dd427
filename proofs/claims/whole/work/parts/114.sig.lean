-- bytes as numbers
def By (x : Int32) : Nat := U x % 256
set_option maxHeartbeats 100000 in
theorem By_lt (x : Int32) : By x < 256 := Nat.mod_lt _ (by decide)
set_option maxHeartbeats 100000 in
theorem and255 (x : Int32) : x &&& (255 : Int32) = nI (By x) := pk_and x (m := 255) 8 (by decide)
/-- bytes a to a + n, the highest first -/
def beN (h : Nat → Int32) (a : Nat) : Nat → Nat
  | 0 => 0
  | n + 1 => beN h a n * 256 + By (h (a + n))
set_option maxHeartbeats 100000 in
theorem beN_lt (h : Nat → Int32) (a : Nat) : ∀ n, beN h a n < 256 ^ n
  | 0 => by show (0 : Nat) < 1; decide
  | n + 1 => by
    have h1 := beN_lt h a n
    have h2 := By_lt (h (a + n))
    show beN h a n * 256 + By (h (a + n)) < 256 ^ n * 256
    generalize 256 ^ n = X at *
    omega
set_option maxHeartbeats 100000 in
/-- the last k of n bytes -/
theorem beN_add (h : Nat → Int32) (a : Nat) (n : Nat) : ∀ k, beN h a (n + k) = beN h a n * 256 ^ k + beN h (a + n) k
  | 0 => by
    show beN h a n = beN h a n * 1 + 0
    omega
  | k + 1 => by
    have h1 := beN_add h a n k
    show beN h a (n + k) * 256 + By (h (a + (n + k))) = beN h a n * (256 ^ k * 256) + (beN h (a + n) k * 256 + By (h (a + n + k)))
    rw [h1, show a + (n + k) = a + n + k by omega, Nat.add_mul, Nat.mul_assoc]
    omega
set_option maxHeartbeats 100000 in
theorem beN_c {h g : Nat → Int32} {a b : Nat} : ∀ n, (∀ j, j < n → h (a + j) = g (b + j)) → beN h a n = beN g b n
  | 0, _ => rfl
  | n + 1, e => by
    show beN h a n * 256 + By (h (a + n)) = beN g b n * 256 + By (g (b + n))
    rw [beN_c n (fun j hj => e j (by omega)), e n (by omega)]
theorem beN_1 (h : Nat → Int32) (a : Nat) : beN h a 1 = By (h a) := by
  show 0 * 256 + By (h (a + 0)) = _
  rw [Nat.add_zero, Nat.zero_mul, Nat.zero_add]
set_option maxHeartbeats 100000 in
theorem V_updq (h : Nat → Int32) (q k : Nat) (x : Int32) : V (upd h q x) (q + 1 + k) + U (h q) * 2 ^ (32 * q) = V h (q + 1 + k) + U x * 2 ^ (32 * q) := by
  have e1 := V_add h (q + 1) k
  have e2 := V_add (upd h q x) (q + 1) k
  have e3 : V (fun j => upd h q x (q + 1 + j)) k = V (fun j => h (q + 1 + j)) k := V_c (fun j hj => pk_un (by omega))
  rw [e1, e2, e3, V_s, V_s, V_u _ _ _ _ (Nat.le_refl _), pk_us]
  generalize U (h q) * 2 ^ (32 * q) = A
  generalize U x * 2 ^ (32 * q) = B
  generalize 2 ^ (32 * (q + 1)) * V (fun j => h (q + 1 + j)) k = C
  omega
set_option maxHeartbeats 100000 in
theorem shl8 : ∀ r, r < 4 → (((nI (8 * r)) &&& 31).toBitVec.smod 32).toNat = 8 * r := by decide
set_option maxHeartbeats 100000 in
theorem p256 (k : Nat) : 256 ^ k = 2 ^ (8 * k) := by rw [Nat.pow_mul]
set_option maxHeartbeats 100000 in
theorem rd_s {h r : Nat → Int32} {a n k : Nat} (hk : k < n) (hn : n ≤ 32) (hI : V r 8 = beN h (a + n - k) k) : V (upd r (k / 4) (r (k / 4) ||| (nI (By (h (a + n - 1 - k))) <<< (nI (8 * (k % 4)) &&& 31)))) 8 = beN h (a + n - (k + 1)) (k + 1) := by
  have hb := By_lt (h (a + n - 1 - k))
  have e0 : a + n - (k + 1) = a + n - 1 - k := by omega
  have e1 : beN h (a + n - (k + 1)) (k + 1) = By (h (a + n - 1 - k)) * 256 ^ k + beN h (a + n - k) k := by
    have := beN_add h (a + n - (k + 1)) 1 k
    rw [show 1 + k = k + 1 by omega, show a + n - (k + 1) + 1 = a + n - k by omega] at this
    rw [this, beN_1, e0]
  have hlt : V r 8 < 2 ^ (8 * k) := by rw [hI, ← p256]; exact beN_lt _ _ _
  have e2 : 8 * k = 32 * (k / 4) + 8 * (k % 4) := by omega
  have hq : U (r (k / 4)) < 2 ^ (8 * (k % 4)) := by
    have h1 := V_add r (k / 4 + 1) (7 - k / 4)
    rw [show k / 4 + 1 + (7 - k / 4) = 8 by omega, V_s r (k / 4)] at h1
    rw [h1, e2, Nat.pow_add] at hlt
    apply Classical.byContradiction
    intro g
    have g2 : 2 ^ (8 * (k % 4)) * 2 ^ (32 * (k / 4)) ≤ U (r (k / 4)) * 2 ^ (32 * (k / 4)) := Nat.mul_le_mul_right _ (Nat.le_of_not_lt g)
    rw [Nat.mul_comm (2 ^ (8 * (k % 4)))] at g2
    generalize 2 ^ (32 * (k / 4)) * 2 ^ (8 * (k % 4)) = X at *
    generalize U (r (k / 4)) * 2 ^ (32 * (k / 4)) = Y at *
    omega
  have h3 := V_updq r (k / 4) (7 - k / 4) (r (k / 4) ||| (nI (By (h (a + n - 1 - k))) <<< (nI (8 * (k % 4)) &&& 31)))
  rw [show k / 4 + 1 + (7 - k / 4) = 8 by omega] at h3
  have hsh : U (nI (By (h (a + n - 1 - k))) <<< (nI (8 * (k % 4)) &&& 31)) = By (h (a + n - 1 - k)) * 2 ^ (8 * (k % 4)) := by
    have hs := pk_shl (nI (By (h (a + n - 1 - k)))) (nI (8 * (k % 4)) &&& 31) (8 * (k % 4)) (shl8 (k % 4) (by omega))
    show (nI (By (h (a + n - 1 - k))) <<< (nI (8 * (k % 4)) &&& 31)).toBitVec.toNat = _
    rw [hs]
    show U (nI (By (h (a + n - 1 - k)))) * 2 ^ (8 * (k % 4)) % 2 ^ 32 = _
    rw [U_nI (by omega)]
    apply Nat.mod_eq_of_lt
    have : k % 4 = 0 ∨ k % 4 = 1 ∨ k % 4 = 2 ∨ k % 4 = 3 := by omega
    rcases this with g | g | g | g <;> rw [g] <;> omega
  rw [u_or rfl hsh hq, Nat.add_mul, Nat.mul_assoc, ← Nat.pow_add, show 8 * (k % 4) + 32 * (k / 4) = 8 * k by omega] at h3
  rw [e1, p256, ← hI]
  generalize By (h (a + n - 1 - k)) * 2 ^ (8 * k) = X at *
  generalize U (r (k / 4)) * 2 ^ (32 * (k / 4)) = Y at *
  omega
set_option maxHeartbeats 100000 in
theorem l_M_read (fu n1 : Nat) (hn1 : n1 < 2 ^ 31) (h : Nat → Int32) {a n : Nat} (hn : n ≤ 32) (ha : a + n ≤ n1) : ∀ j k m r, k + j = n → j < m → V r 8 = beN h (a + n - k) k → ok (x_M_read_24 fu n1 h m (nI a) (nI n) (nI k) r) (fun r => V r 8 = beN h a n) := by
  intro j
  induction j with
  | zero =>
    intro k m r hk hm hI
    obtain ⟨m, rfl⟩ : ∃ q, m = q + 1 := ⟨m - 1, by omega⟩
    have e : k = n := by omega
    subst e
    show ok (xb_M_read_24 fu n1 h (x_M_read_24 fu n1 h m) (nI a) (nI k) (nI k) r) _
    unfold xb_M_read_24
    refine ok_t (Int32.le_refl _) (ok_some ?_)
    rw [hI, show a + k - k = a by omega]
  | succ j ih =>
    intro k m r hk hm hI
    obtain ⟨m, rfl⟩ : ∃ q, m = q + 1 := ⟨m - 1, by omega⟩
    show ok (xb_M_read_24 fu n1 h (x_M_read_24 fu n1 h m) (nI a) (nI n) (nI k) r) _
    unfold xb_M_read_24
    have e1 : nI k / (4 : Int32) = nI (k / 4) := pk_div (d := 4) (by omega) (by decide) (by decide)
    have e2 : nI k - nI k / (4 : Int32) * (4 : Int32) = nI (k % 4) := pk_rem (d := 4) (by omega) (by decide) (by decide)
    have e3 : nI a + nI n - (1 : Int32) - nI k = nI (a + n - 1 - k) := by
      rw [nI_add, show (1 : Int32) = nI 1 from rfl, pk_sub (by omega), pk_sub (by omega)]
    have e4 : (8 : Int32) * nI (k % 4) = nI (8 * (k % 4)) := pk_mul 8 (k % 4)
    refine ok_f (nI_ge (by omega) (by omega)) ?_
    rw [e2, e1, e4]
    refine ok_bnd (ok_gd (inb_nI (by omega) (by decide)) (ok_bnd (ok_bnd (ok_bnd (ok_bnd ?_)))))
    rw [e3]
    refine ok_gd (inb_nI (by omega) (by omega)) (ok_bnd (ok_bnd (ok_bnd (ok_gd (inb_nI (by omega) (by decide)) (ok_bnd (ok_bnd ?_))))))
    rw [nI_clamp (n := k / 4) (by omega), nI_clamp (n := a + n - 1 - k) (by omega), and255, nI_1]
    exact ih (k + 1) m _ (by omega) (by omega) (rd_s (by omega) hn hI)
set_option maxHeartbeats 100000 in
theorem v_M_read (fu n1 : Nat) (hfu : 40 ≤ fu) (hn1 : n1 < 2 ^ 31) (h : Nat → Int32) {a n : Nat} (hn : n ≤ 32) (ha : a + n ≤ n1) (w : Nat → Int32) : ok (x_M_read fu n1 h (nI a) (nI n) w) (fun r => V r 8 = beN h a n) := by
  unfold x_M_read
  have hz : ∀ j k m r, k + j = 8 → j < m → (∀ i, i < k → r i = 0) → ok (x_M_read_3 fu n1 h m (nI a) (nI n) (nI k) r) (fun r => V r 8 = beN h a n) := by
    intro j
    induction j with
    | zero =>
      intro k m r hk hm hr
      obtain ⟨m, rfl⟩ : ∃ q, m = q + 1 := ⟨m - 1, by omega⟩
      have e : k = 8 := by omega
      subst e
      show ok (xb_M_read_3 fu n1 h (x_M_read_3 fu n1 h m) (nI a) (nI n) (nI 8) r) _
      unfold xb_M_read_3
      refine ok_t (show (8 : Int32) ≤ nI 8 from by decide) ?_
      exact l_M_read fu n1 hn1 h hn ha n 0 fu r (by omega) (by omega) ((V_0 r 8).mpr hr)
    | succ j ih =>
      intro k m r hk hm hr
      obtain ⟨m, rfl⟩ : ∃ q, m = q + 1 := ⟨m - 1, by omega⟩
      show ok (xb_M_read_3 fu n1 h (x_M_read_3 fu n1 h m) (nI a) (nI n) (nI k) r) _
      unfold xb_M_read_3
      refine ok_f (show ¬ (8 : Int32) ≤ nI k from nI_ge (b := 8) (by omega) (by decide)) (ok_gd (inb_nI (by omega) (by decide)) (ok_bnd (ok_bnd ?_)))
      rw [nI_clamp (n := k) (by omega), nI_1]
      refine ih (k + 1) m _ (by omega) (by omega) (fun i hi => ?_)
      by_cases e : i = k
      · rw [e, pk_us]
      · rw [pk_un e]; exact hr i (by omega)
  exact hz 8 0 fu w (by omega) (by omega) (fun i hi => absurd hi (Nat.not_lt_zero _))
-- a number of a signature
def whS (h : Nat → Int32) (a n : Nat) : Prop := 0 < n ∧ ¬ h a < 0 ∧ ¬ (1 < n ∧ h a = 0 ∧ 0 ≤ h (a + 1))
set_option maxHeartbeats 100000 in
theorem v_M_isWhole (fu : Nat) (z : Nat → Int32) (n1 : Nat) (hn1 : n1 < 2 ^ 31) (h : Nat → Int32) {a n : Nat} (ha : a + n ≤ n1) : ok (x_M_isWhole fu z n1 h (nI a) (nI n)) (fun v => (v = 0 ∧ ¬ whS h a n) ∨ (v = 1 ∧ whS h a n)) := by
  unfold x_M_isWhole
  by_cases h0 : n = 0
  · subst h0
    exact ok_t (show nI 0 ≤ 0 from by decide) (ok_some (Or.inl ⟨rfl, fun g => absurd g.1 (Nat.lt_irrefl _)⟩))
  · refine ok_f (nI_nle (by omega) (by omega)) (ok_gd (inb_nI (by omega) (by omega)) (ok_bnd ?_))
    rw [nI_clamp (n := a) (by omega)]
    refine ok_ite (fun g => ok_some (Or.inl ⟨rfl, fun s => s.2.1 g⟩)) (fun g => ?_)
    by_cases h1 : n = 1
    · subst h1
      unfold xb_M_isWhole_29
      exact ok_t (show nI 1 ≤ (1 : Int32) from by decide) (ok_some (Or.inr ⟨rfl, by omega, g, fun s => absurd s.1 (Nat.lt_irrefl _)⟩))
    · refine ok_f (show ¬ nI n ≤ (1 : Int32) from nI_ge (a := 1) (by omega) (by omega)) (ok_gd (inb_nI (by omega) (by omega)) (ok_bnd ?_))
      refine ok_ite (fun g1 => ?_) (fun g1 => ?_)
      · rw [nI_1]
        refine ok_bnd (ok_gd (inb_nI (by omega) (by omega)) (ok_bnd ?_))
        rw [nI_clamp (n := a + 1) (by omega)]
        unfold xb_M_isWhole_29
        exact ok_ite (fun g2 => ok_some (Or.inl ⟨rfl, fun s => s.2.2 ⟨by omega, g1, g2⟩⟩)) (fun g2 => ok_some (Or.inr ⟨rfl, by omega, g, fun s => g2 s.2.2⟩))
      · unfold xb_M_isWhole_29
        exact ok_some (Or.inr ⟨rfl, by omega, g, fun s => g1 s.2.1⟩)
def scS (h : Nat → Int32) (a n : Nat) : Prop := (n ≤ 32 ∨ (n = 33 ∧ h a = 0)) ∧ 0 < beN h a n ∧ beN h a n < nN
set_option maxHeartbeats 100000 in
theorem beN_33 {h : Nat → Int32} {a : Nat} (h0 : h a = 0) : beN h a 33 = beN h (a + 1) 32 := by
  have := beN_add h a 1 32
  rw [show 1 + 32 = 33 by rfl] at this
  rw [this]
  have h1 : beN h a 1 = 0 := by rw [beN_1, h0]; rfl
  rw [h1, Nat.zero_mul, Nat.zero_add]
set_option maxHeartbeats 100000 in
theorem v_M_isScalar (fu : Nat) (hfu : 40 ≤ fu) (z : Nat → Int32) (n1 : Nat) (hn1 : n1 < 2 ^ 31) (h : Nat → Int32) {a n : Nat} (ha : a + n ≤ n1) (w : Nat → Int32) : ok (x_M_isScalar fu z n1 h (nI a) (nI n) w) (fun r => (r.1 = 0 ∧ ¬ scS h a n) ∨ (r.1 = 1 ∧ scS h a n ∧ V r.2 8 = beN h a n)) := by
  have key : ∀ b m, b + m ≤ n1 → (∀ g : m ≤ 32, (n ≤ 32 ∨ (n = 33 ∧ h a = 0)) ∧ beN h b m = beN h a n) → (¬ m ≤ 32 → ¬ (n ≤ 32 ∨ (n = 33 ∧ h a = 0))) → ok (xb_M_isScalar_27 fu z n1 h (nI b) (nI m) w) (fun r => (r.1 = 0 ∧ ¬ scS h a n) ∨ (r.1 = 1 ∧ scS h a n ∧ V r.2 8 = beN h a n)) := by
    intro b m hb h1 h2
    unfold xb_M_isScalar_27
    by_cases g : m ≤ 32
    · obtain ⟨k1, k2⟩ := h1 g
      refine ok_t (show nI m ≤ (32 : Int32) from nI_le (b := 32) g (by decide)) ?_
      refine ok_bd1 (v_M_read fu n1 hfu hn1 h g hb w) (fun f q => ?_)
      rw [k2] at q
      rw [v_M_isZero fu (by omega), bd1_q, q]
      by_cases g0 : beN h a n = 0
      · rw [if_pos g0]
        exact ok_f one_ne (ok_some (Or.inl ⟨rfl, fun s => by have := s.2.1; omega⟩))
      · rw [if_neg g0]
        refine ok_t rfl ?_
        rw [v_M_compare_s1x23 fu (by omega), bd1_q, q, V_23]
        refine ok_ite (fun g1 => ok_some (Or.inl ⟨rfl, fun s => ?_⟩)) (fun g1 => ok_some (Or.inr ⟨rfl, ⟨k1, Nat.pos_of_ne_zero g0, ?_⟩, q⟩))
        · exact absurd s.2.2 (Nat.not_lt_of_le ((cmpN_ge _ _).mp g1))
        · exact Nat.lt_of_not_le (fun g2 => g1 ((cmpN_ge _ _).mpr g2))
    · refine ok_f (show ¬ nI m ≤ (32 : Int32) from nI_ge (a := 32) (by omega) (by omega)) (ok_some (Or.inl ⟨rfl, fun s => h2 g s.1⟩))
  unfold x_M_isScalar
  by_cases h33 : n = 33
  · subst h33
    refine ok_t (show nI 33 = (33 : Int32) from rfl) (ok_gd (inb_nI (by omega) (by omega)) (ok_bnd ?_))
    rw [nI_clamp (n := a) (by omega)]
    refine ok_ite (fun g => ?_) (fun g => ?_)
    · rw [nI_1, show nI 33 + (-1 : Int32) = nI 32 by decide]
      exact ok_bnd (ok_bnd (key (a + 1) 32 (by omega) (fun _ => ⟨Or.inr ⟨rfl, g⟩, (beN_33 g).symm⟩) (fun q => absurd (Nat.le_refl _) q)))
    · exact key a 33 ha (fun q => absurd q (by decide)) (fun _ q => by
        rcases q with q | q
        · exact absurd q (by decide)
        · exact g q.2)
  · refine ok_f (fun q => h33 ((nI_eq (b := 33) (by omega) (by decide)).mp q)) ?_
    exact key a n ha (fun g => ⟨Or.inl g, rfl⟩) (fun g q => by
      rcases q with q | q
      · exact g q
      · exact h33 q.1)
