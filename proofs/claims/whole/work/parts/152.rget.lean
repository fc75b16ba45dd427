-- the reference reads numbers
def zk (z z' : Nat → Int32) : Prop := ∀ j, j ≠ 16 → j ≠ 18 → z' j = z j
set_option maxHeartbeats 400000 in
theorem zk_r (z : Nat → Int32) : zk z z := fun _ _ _ => rfl
set_option maxHeartbeats 400000 in
theorem zk_t {z z' z'' : Nat → Int32} (h : zk z z') (h' : zk z' z'') : zk z z'' := fun j h1 h2 => (h' j h1 h2).trans (h j h1 h2)
set_option maxHeartbeats 400000 in
theorem zk_6 (z : Nat → Int32) (x : Int32) : zk z (upd z 16 x) := fun j h1 _ => pk_un h1
set_option maxHeartbeats 400000 in
theorem zk_8 (z : Nat → Int32) (x : Int32) : zk z (upd z 18 x) := fun j _ h2 => pk_un h2
/-- a place within the bytes -/
def zA (z : Nat → Int32) (E a : Nat) : Prop := z 17 = nI E ∧ z 16 = nI a ∧ a ≤ E ∧ E ≤ 103000
def geP (st : Nat → Int32) (E a n : Nat) (z : Nat → Int32) (t : Int64 × (Nat → Int32)) : Prop := zk z t.2 ∧ ((a + n ≤ E ∧ t.1 = lN (leP st a n) ∧ t.2 16 = nI (a + n) ∧ t.2 18 = z 18) ∨ (E < a + n ∧ t.1 = 0 ∧ t.2 16 = nI E ∧ t.2 18 = 1))
set_option maxHeartbeats 400000 in
theorem leP_sh (g : Nat → Int32) (a k : Nat) : ∀ m, leP g (a + k) (m + 1) = By (g (a + k)) + leP g (a + (k + 1)) m * 2 ^ 8
  | 0 => by
    show 0 + By (g (a + k)) * 1 = By (g (a + k)) + 0 * 2 ^ 8
    omega
  | m + 1 => by
    have ih := leP_sh g a k m
    show leP g (a + k) (m + 1) + By (g (a + k + (m + 1))) * 2 ^ (8 * (m + 1)) = By (g (a + k)) + (leP g (a + (k + 1)) m + By (g (a + (k + 1) + m)) * 2 ^ (8 * m)) * 2 ^ 8
    rw [ih, Nat.add_mul, Nat.mul_assoc, ← Nat.pow_add, show 8 * m + 8 = 8 * (m + 1) by omega, show a + k + (m + 1) = a + (k + 1) + m by omega]
    omega
set_option maxHeartbeats 400000 in
theorem l_ge35 (fu : Nat) (st z : Nat → Int32) {E a n : Nat} (hn : n ≤ 8) (hz : zA z E a) (hE : a + n ≤ E) : ∀ k f v, k ≤ n → k < f → v = leP st (a + k) (n - k) → x_M_get_35 fu st f (nI n) (lN v) (nI k + (-1)) z = some (lN (leP st a n), upd z 16 (nI (a + n))) := by
  obtain ⟨h1, h2, h3, h4⟩ := hz
  intro k
  induction k with
  | zero =>
    intro f v _ hf hv
    obtain ⟨f, rfl⟩ : ∃ m, f = m + 1 := ⟨f - 1, by omega⟩
    show xb_M_get_35 fu st (x_M_get_35 fu st f) (nI n) (lN v) (nI 0 + (-1)) z = _
    unfold xb_M_get_35
    rw [if_pos (by decide), bnd_q, bnd_q, h2, nI_add, hv, Nat.add_zero, Nat.sub_zero]
  | succ k ih =>
    intro f v hk hf hv
    obtain ⟨f, rfl⟩ : ∃ m, f = m + 1 := ⟨f - 1, by omega⟩
    rw [pk_m1]
    show xb_M_get_35 fu st (x_M_get_35 fu st f) (nI n) (lN v) (nI k) z = _
    unfold xb_M_get_35
    have hB := By_lt (st (a + k))
    have hvl := leP_lt st (a + (k + 1)) (n - (k + 1))
    rw [← hv] at hvl
    have hvl2 : v < 2 ^ 56 := Nat.lt_of_lt_of_le hvl (Nat.pow_le_pow_right (by decide) (by omega))
    rw [if_neg (nI_pos (by omega))]
    simp only [↓bnd_q]
    rw [h2, nI_add, gd_t (inb_nI (by omega) (by omega)), nI_clamp (by omega), and255, iL (by omega), lN_shl ((8 : Int32).toInt64 &&& 63) (k := 8) (by decide), Int64.or_comm, lN_or (i := 8) (by omega) (by omega)]
    refine ih f _ (by omega) (by omega) ?_
    rw [hv, show n - k = (n - (k + 1)) + 1 by omega, leP_sh]
set_option maxHeartbeats 400000 in
theorem v_M_get (fu : Nat) (hfu : 10 ≤ fu) (st z : Nat → Int32) {E a n : Nat} (hn : n ≤ 8) (hz : zA z E a) : ok (x_M_get fu st (nI n) z) (geP st E a n z) := by
  unfold x_M_get
  have hz0 := hz
  obtain ⟨h1, h2, h3, h4⟩ := hz0
  rw [h1, h2, show nI E - nI a = nI (E - a) from pk_sub h3]
  by_cases g : a + n ≤ E
  · refine ok_t (nI_le (by omega) (by omega)) (ok_bn (Int32.sub_eq_add_neg (nI n) 1) ?_)
    rw [show (0 : Int64) = lN 0 from rfl, l_ge35 fu st z hn hz g n fu 0 (Nat.le_refl _) (by omega) (by rw [Nat.sub_self]; rfl)]
    exact ok_some ⟨zk_6 _ _, Or.inl ⟨g, rfl, show upd z 16 (nI (a + n)) 16 = nI (a + n) from pk_us, show upd z 16 (nI (a + n)) 18 = z 18 from pk_un (by decide)⟩⟩
  · refine ok_f (nI_ge (by omega) (by omega)) (ok_bnd (ok_bnd (ok_some ⟨zk_t (zk_8 _ _) (zk_6 _ _), Or.inr ⟨by omega, rfl, ?_, ?_⟩⟩)))
    · show upd (upd z 18 1) 16 (upd z 18 1 17) 16 = nI E
      rw [pk_us, pk_un (by decide), h1]
    · show upd (upd z 18 1) 16 (upd z 18 1 17) 18 = 1
      rw [pk_un (by decide), pk_us]
set_option maxHeartbeats 400000 in
theorem v_M_skip (fu : Nat) (z : Nat → Int32) {E a v : Nat} (hv : v < 2 ^ 62) (hz : zA z E a) : ok (x_M_skip fu (lN v) z) (fun t => zk z t ∧ ((a + v ≤ E ∧ t 16 = nI (a + v) ∧ t 18 = z 18) ∨ (E < a + v ∧ t 16 = nI a ∧ t 18 = 1))) := by
  unfold x_M_skip xb_M_skip_21
  obtain ⟨h1, h2, h3, h4⟩ := hz
  refine ok_f (lgn v hv) ?_
  have hc : lg_cmp (lN v) (z 17 - z 16).toInt64 ≤ 0 ↔ a + v ≤ E := by
    rw [h1, h2, lgs v hv, pk_sub_toInt (by omega) (by omega)]
    omega
  refine ok_ite (fun q => ?_) (fun q => ok_bnd (ok_some ⟨zk_8 _ _, Or.inr ⟨?_, ?_, pk_us⟩⟩))
  · have q := hc.mp q
    rw [h2, iN_l]
    exact ok_bn (nI_add a v) (ok_bnd (ok_some ⟨zk_6 _ _, Or.inl ⟨q, pk_us, pk_un (by decide)⟩⟩))
  · exact Nat.lt_of_not_le (fun s => q (hc.mpr s))
  · rw [pk_un (by decide)]; exact h2
def coP (st : Nat → Int32) (E a : Nat) (z : Nat → Int32) (t : Int64 × (Nat → Int32)) : Prop := zk z t.2 ∧ ((∃ v b, cnt st E a = some (v, b) ∧ t.1 = lN v ∧ t.2 16 = nI b ∧ t.2 18 = z 18) ∨ (cnt st E a = none ∧ t.2 18 = 1 ∧ (∃ b, (a ≤ b ∧ b ≤ E) ∧ t.2 16 = nI b) ∧ ∃ v, v < 2 ^ 33 ∧ t.1 = lN v))
set_option maxHeartbeats 400000 in
theorem cnt_0 {p : Nat → Int32} {E a : Nat} (h : E < a + 1) : cnt p E a = none := by
  unfold cnt
  rw [if_pos (by omega)]
set_option maxHeartbeats 400000 in
theorem v_M_count0 (fu : Nat) (hfu : 10 ≤ fu) (st z : Nat → Int32) {E a : Nat} (hz : zA z E a) : ok (x_M_count0 fu st z) (coP st E a z) := by
  unfold x_M_count0
  have hz0 := hz
  obtain ⟨h1, h2, h3, h4⟩ := hz0
  rw [show (1 : Int32) = nI 1 from rfl]
  refine ok_bd2 (v_M_get fu hfu st z (n := 1) (by decide) hz) (fun v1 f2 h => ?_)
  obtain ⟨k1, h⟩ := h
  replace k1 : zk z f2 := k1
  rcases h with ⟨g, e1, e2, e3⟩ | ⟨g, e1, e2, e3⟩
  · replace e1 : v1 = lN (leP st a 1) := e1
    replace e2 : f2 16 = nI (a + 1) := e2
    replace e3 : f2 18 = z 18 := e3
    have hb1 : leP st a 1 = By (st a) := by
      show 0 + By (st a) * 1 = _
      omega
    have hB := By_lt (st a)
    rw [hb1] at e1
    subst e1
    rw [iN_l]
    refine ok_bnd ?_
    by_cases g1 : By (st a) < 253
    · refine ok_f (show ¬ (253 : Int32) ≤ nI (By (st a)) from nI_ge (b := 253) g1 (by decide)) (ok_bn (iL (by omega)) (ok_some ⟨k1, Or.inl ⟨By (st a), a + 1, ?_, rfl, e2, e3⟩⟩))
      unfold cnt
      rw [if_neg (by omega), if_pos g1]
    refine ok_t (show (253 : Int32) ≤ nI (By (st a)) from nI_le (a := 253) (by omega) (by omega)) ?_
    have hz2 : zA f2 E (a + 1) := ⟨by rw [k1 17 (by decide) (by decide)]; exact h1, e2, by omega, h4⟩
    have wr : ∀ (f : Nat → Int32) (v : Nat), zk z f → (∃ b, (a ≤ b ∧ b ≤ E) ∧ f 16 = nI b) → v < 2 ^ 33 → cnt st E a = none → ok (xb_M_count0_74 fu st (lN v) f) (coP st E a z) := by
      intro f v hf hb hv hc
      unfold xb_M_count0_74
      obtain ⟨b, hb1, hb2⟩ := hb
      refine ok_bnd (ok_some ⟨zk_t hf (zk_8 _ _), Or.inr ⟨hc, show upd f 18 1 18 = 1 from pk_us, ⟨b, hb1, ?_⟩, v, hv, rfl⟩⟩)
      show upd f 18 1 16 = nI b
      rw [pk_un (by decide), hb2]
    by_cases g2 : By (st a) = 255
    · refine ok_t (by rw [g2]; rfl) ?_
      unfold xb_M_count0_44
      refine ok_t (by rw [g2]; rfl) ?_
      rw [show (0 : Int64) = lN 0 from rfl]
      refine wr f2 0 k1 ⟨a + 1, by omega, e2⟩ (by decide) ?_
      unfold cnt
      rw [if_neg (by omega), if_neg g1, if_neg (by omega), if_neg (by omega)]
    refine ok_f (fun q => g2 ((nI_eq (b := 255) (by omega) (by decide)).mp q)) ?_
    have part : ∀ n lim : Nat, ((n = 2 ∧ lim = 253) ∨ (n = 4 ∧ lim = 65536)) → (By (st a) = 253 ↔ n = 2) → (cnt st E a = if a + 1 + n ≤ E ∧ lim ≤ leP st (a + 1) n then some (leP st (a + 1) n, a + 1 + n) else none) → ok (xb_M_count0_41 fu st (nI (By (st a))) (nI n) f2) (coP st E a z) := by
      intro n lim hlim h253 hc
      unfold xb_M_count0_41
      refine ok_bd2 (v_M_get fu hfu st f2 (n := n) (by omega) hz2) (fun v f3 h => ?_)
      obtain ⟨k3, h⟩ := h
      replace k3 : zk f2 f3 := k3
      have kz := zk_t k1 k3
      have hl := leP_lt st (a + 1) n
      have hl2 : leP st (a + 1) n < 2 ^ 32 := Nat.lt_of_lt_of_le hl (Nat.pow_le_pow_right (by decide) (by omega))
      unfold xb_M_count0_44
      have tail : ∀ v3 : Nat, v3 < 2 ^ 33 → (∃ b, (a ≤ b ∧ b ≤ E) ∧ f3 16 = nI b) → (lim ≤ v3 → a + 1 + n ≤ E ∧ v3 = leP st (a + 1) n ∧ f3 16 = nI (a + 1 + n) ∧ f3 18 = z 18) → (v3 < lim → cnt st E a = none) → ok (if nI (By (st a)) = (255 : Int32) then (xb_M_count0_74 fu st (lN v3) f3) else (if nI (By (st a)) = (253 : Int32) then (xb_M_count0_69 fu st (lN v3) (253 : Int32) (lN v3) f3) else (xb_M_count0_69 fu st (lN v3) (65536 : Int32) (lN v3) f3))) (coP st E a z) := by
        intro v3 hv3 hb hgood hbad
        refine ok_f (fun q => g2 ((nI_eq (b := 255) (by omega) (by decide)).mp q)) ?_
        have go : ∀ y : Int32, y.toInt64 = lN lim → ok (xb_M_count0_69 fu st (lN v3) y (lN v3) f3) (coP st E a z) := by
          intro y hy
          unfold xb_M_count0_69
          rw [hy]
          refine ok_ite (fun q => ?_) (fun q => ?_)
          · have q := (lg_n _ _ (by omega) (by omega)).mp q
            obtain ⟨s1, s2, s3, s4⟩ := hgood q
            refine ok_some ⟨kz, Or.inl ⟨leP st (a + 1) n, a + 1 + n, ?_, ?_, s3, s4⟩⟩
            · rw [hc, if_pos ⟨s1, by rw [← s2]; exact q⟩]
            · rw [s2]
          · exact wr f3 v3 kz hb hv3 (hbad (Nat.lt_of_not_le (fun s => q ((lg_n _ _ (by omega) (by omega)).mpr s))))
        rcases hlim with ⟨n2, l2⟩ | ⟨n4, l4⟩
        · refine ok_t (by rw [h253.mpr n2]; rfl) (go 253 (by rw [l2]; decide))
        · refine ok_f (fun q => ?_) (go 65536 (by rw [l4]; decide))
          have := h253.mp ((nI_eq (b := 253) (by omega) (by decide)).mp q)
          omega
      rcases h with ⟨s0, s1, s2, s3⟩ | ⟨s0, s1, s2, s3⟩
      · replace s1 : v = lN (leP st (a + 1) n) := s1
        replace s2 : f3 16 = nI (a + 1 + n) := s2
        replace s3 : f3 18 = f2 18 := s3
        subst s1
        exact tail _ (by omega) ⟨_, ⟨by omega, s0⟩, s2⟩ (fun _ => ⟨s0, rfl, s2, by rw [s3, e3]⟩) (fun q => by rw [hc, if_neg (fun s => by omega)])
      · replace s1 : v = 0 := s1
        replace s2 : f3 16 = nI E := s2
        subst s1
        rw [show (0 : Int64) = lN 0 from rfl]
        have hno : cnt st E a = none := by rw [hc, if_neg (fun s => by omega)]
        exact tail 0 (by decide) ⟨E, by omega, s2⟩ (fun q => absurd q (by omega)) (fun _ => hno)
    by_cases g3 : By (st a) = 253
    · refine ok_t (by rw [g3]; rfl) (part 2 253 (Or.inl ⟨rfl, rfl⟩) ⟨fun _ => rfl, fun _ => g3⟩ ?_)
      unfold cnt
      rw [if_neg (by omega), if_neg g1, if_pos g3]
    · refine ok_f (fun q => g3 ((nI_eq (b := 253) (by omega) (by decide)).mp q)) (part 4 65536 (Or.inr ⟨rfl, rfl⟩) ⟨fun q => absurd q g3, fun q => absurd q (by decide)⟩ ?_)
      unfold cnt
      rw [if_neg (by omega), if_neg g1, if_neg g3, if_pos (by omega)]
  · replace e1 : v1 = 0 := e1
    replace e2 : f2 16 = nI E := e2
    replace e3 : f2 18 = 1 := e3
    subst e1
    refine ok_bnd (ok_f (by decide) (ok_bnd (ok_some ⟨k1, Or.inr ⟨cnt_0 g, e3, ⟨E, by omega, e2⟩, 0, by decide, rfl⟩⟩)))
