-- the reference's Merkle root
set_option maxHeartbeats 400000 in
theorem By_8 (x : Int32) : By x.toInt8.toInt32 = U x % 256 := by
  have := By_i8 (U x)
  rw [show (lN (U x)).toInt32 = x from by rw [iN_l, nI_U]] at this
  exact this
set_option maxHeartbeats 400000 in
theorem w_by {p : Nat → Int32} {a r : Nat} (hr : r < 4) (hf : fits .byte (.int (p (a + r))) = true) : (nI (leP p a 4) >>> (((8 : Int32) * nI r) &&& 31)).toInt8.toInt32 = p (a + r) := by
  refine fit_inj (pk_fb _) hf ?_
  have hw := leP_lt p a 4
  rw [sar4 _ hr, By_8]
  have e : U ((nI (leP p a 4)).toUInt32 >>> (((8 : Int32) * nI r).toUInt32 &&& Int32.toUInt32 31)).toInt32 = leP p a 4 / 2 ^ (8 * r) := by
    have cs : r = 0 ∨ r = 1 ∨ r = 2 ∨ r = 3 := by omega
    have h := fun k hk => pk_ushr (nI (leP p a 4)) ((8 : Int32) * nI r) k hk
    have eU : (nI (leP p a 4)).toBitVec.toNat = leP p a 4 := U_nI hw
    rw [eU] at h
    exact h (8 * r) (by rcases cs with rfl | rfl | rfl | rfl <;> decide)
  rw [e]
  show (0 + By (p (a + 0)) * 2 ^ (8 * 0) + By (p (a + 1)) * 2 ^ (8 * 1) + By (p (a + 2)) * 2 ^ (8 * 2) + By (p (a + 3)) * 2 ^ (8 * 3)) / 2 ^ (8 * r) % 256 = By (p (a + r))
  have b0 := By_lt (p (a + 0))
  have b1 := By_lt (p (a + 1))
  have b2 := By_lt (p (a + 2))
  have b3 := By_lt (p (a + 3))
  have cs : r = 0 ∨ r = 1 ∨ r = 2 ∨ r = 3 := by omega
  rcases cs with rfl | rfl | rfl | rfl <;> omega
def prH (A B : Nat → Int32) (j : Nat) : Int32 := if j < 32 then A j else B (j - 32)
def otH (n k : Nat) : Nat := if 2 * k + 1 < n then 2 * k + 1 else 2 * k
def nxH (n : Nat) (H : Nat → Nat → Int32) (k j : Nat) : Int32 := dbl (prH (H (2 * k)) (H (otH n k))) 64 j
def dpQ (n : Nat) (H : Nat → Nat → Int32) (k : Nat) : Prop := 2 * k + 1 < n ∧ bl (H (2 * k)) 0 32 = bl (H (2 * k + 1)) 0 32
/-- n hashes have this root, and no two in a pair are alike -/
def rtQ (R : List Int32) : Nat → Nat → (Nat → Nat → Int32) → Prop
  | 0, _, _ => False
  | f + 1, n, H => if n ≤ 1 then bl (if n = 0 then fun _ => 0 else H 0) 0 32 = R else fa (fun k => ¬ dpQ n H k) 0 ((n + 1) / 2) ∧ rtQ R f ((n + 1) / 2) (nxH n H)
def fH (n : Nat) (H : Nat → Nat → Int32) : Prop := ∀ k, k < n → ∀ j, j < 32 → fits .byte (.int (H k j)) = true
set_option maxHeartbeats 400000 in
theorem dbl_f (m : Nat → Int32) (n j : Nat) : fits .byte (.int (dbl m n j)) = true := pk_fb _
set_option maxHeartbeats 400000 in
theorem nxH_f (n : Nat) (H : Nat → Nat → Int32) (m : Nat) : fH m (nxH n H) := fun k _ j _ => dbl_f _ _ _
/-- the level's words -/
def lvH (u : Nat → Int32) (a n : Nat) (H : Nat → Nat → Int32) : Prop := ∀ k, a ≤ k → k < n → ∀ i, i < 8 → u (8 * k + i) = nI (leP (H k) (4 * i) 4)
abbrev T7r : Type := Int32 × (Nat → Int32) × (Nat → Int32) × (Nat → Int32) × (Nat → Int32) × (Nat → Int32) × (Nat → Int32)
set_option maxHeartbeats 400000 in
theorem tf_isb {P : Prop} {x : Int32} (h : tf P x) : isb x = true := by
  rcases h with ⟨-, e⟩ | ⟨-, e⟩ <;> subst e <;> decide
set_option maxHeartbeats 400000 in
theorem l_rt290 (fu : Nat) (z st ti : Nat → Int32) {m pl : Nat} {x4 : Int32} {F : Prop} (hx : tf F x4) (hm : m ≤ 300) (hpl : pl + 32 ≤ 103000) (u0 u1 u2 u3 u4 u5 : Nat → Int32) {w : Nat → Nat} (hw : ∀ i, i < 8 → w i < 2 ^ 32 ∧ (m = 0 → w i = 0) ∧ (m ≠ 0 → u4 i = nI (w i))) : ∀ r i n, i + r = 8 → r < n → ok (x_M_isRoot_290 fu z st ti n (nI m) (nI pl) x4 (nI i) u0 u1 u2 u3 u4 u5) (fun y => tf (F ∧ fa (fun i => w i = leP st (pl + 4 * i) 4) i 8) y.1) := by
  intro r
  induction r with
  | zero =>
    intro i n hi hn
    obtain ⟨n, rfl⟩ : ∃ m, n = m + 1 := ⟨n - 1, by omega⟩
    show ok (xb_M_isRoot_290 fu z st ti (x_M_isRoot_290 fu z st ti n) (nI m) (nI pl) x4 (nI i) u0 u1 u2 u3 u4 u5) _
    unfold xb_M_isRoot_290
    exact ok_t ((nI_leI (a := 8) (by omega) (by omega)).mpr (by omega)) (ok_gd (tf_isb hx) (ok_some (tf_c ⟨fun z => ⟨z, fa_e (by omega)⟩, fun z => z.1⟩ hx)))
  | succ r ih =>
    intro i n hi hn
    obtain ⟨n, rfl⟩ : ∃ m, n = m + 1 := ⟨n - 1, by omega⟩
    show ok (xb_M_isRoot_290 fu z st ti (x_M_isRoot_290 fu z st ti n) (nI m) (nI pl) x4 (nI i) u0 u1 u2 u3 u4 u5) _
    unfold xb_M_isRoot_290
    obtain ⟨w1, w2, w3⟩ := hw i (by omega)
    refine ok_f (fun e => by have := (nI_leI (a := 8) (by omega) (by omega)).mp e; omega) ?_
    have B : ok (xb_M_isRoot_312 fu z st ti (x_M_isRoot_290 fu z st ti n) (nI m) (nI pl) x4 (nI i) (nI (w i)) u0 u1 u2 u3 u4 u5) (fun y => tf (F ∧ fa (fun i => w i = leP st (pl + 4 * i) 4) i 8) y.1) := by
      unfold xb_M_isRoot_312
      refine ok_bn (e' := nI (pl + 4 * i)) (by rw [show (4 : Int32) = nI 4 from rfl, pk_mul, nI_add]) ?_
      refine ok_bd1 (ok_of (m_small fu 103000 (by decide) st (by omega)) rfl) (fun v hv => ?_)
      subst hv
      have b := leP_lt st (pl + 4 * i) 4
      by_cases q : w i = leP st (pl + 4 * i) 4
      · refine ok_t (by rw [q]) (ok_bn (nI_1 i) (ok_mono (ih (i + 1) n (by omega) (by omega)) fun y hy => tf_c ?_ hy))
        rw [fa_s (Q := fun i => w i = leP st (pl + 4 * i) 4) (j := i) (n := 8) q]
      · exact ok_f (fun e => q ((nI_eq32 w1 b).mp e)) (ok_some (tf_0 fun e => fa_n (Q := fun i => w i = leP st (pl + 4 * i) 4) (by omega) q e.2))
    by_cases q : m = 0
    · refine ok_t (by rw [q]; rfl) ?_
      rw [w2 q] at B
      exact B
    · refine ok_f (fun e => q ((nI_eq (b := 0) (by omega) (by omega)).mp e)) (ok_gd (inb_nI (by omega) (by decide)) (ok_bn (by rw [nI_clamp (n := i) (by omega), w3 q]) B))
set_option maxHeartbeats 400000 in
/-- the hash of a pair is written at its place -/
theorem l_rt234 (fu : Nat) (z st ti : Nat → Int32) (k26 : Int32 → Int32 → Int32 → Int32 → (Nat → Int32) → (Nat → Int32) → (Nat → Int32) → (Nat → Int32) → (Nat → Int32) → (Nat → Int32) → Option (Int32 × (Nat → Int32) × (Nat → Int32) × (Nat → Int32) × (Nat → Int32) × (Nat → Int32) × (Nat → Int32))) (k35 : Int32 → Int32 → Int32 → Int32 → Int32 → (Nat → Int32) → (Nat → Int32) → (Nat → Int32) → (Nat → Int32) → (Nat → Int32) → (Nat → Int32) → Option (Int32 × (Nat → Int32) × (Nat → Int32) × (Nat → Int32) × (Nat → Int32) × (Nat → Int32) × (Nat → Int32))) {m pl n' k : Nat} {x4 : Int32} (hk : k ≤ 400) (P : T7r → Prop) (u0 u1 u2 u3 u5 : Nat → Int32) {U4 : Nat → Int32} (h : ∀ u4, (∀ i, i < 8 → u4 (8 * k + i) = nI (leP u2 (4 * i) 4)) → (∀ j, j < 8 * k ∨ 8 * k + 8 ≤ j → u4 j = U4 j) → ok (k35 (nI m) (nI pl) x4 (nI n') (nI (2 * k + 2)) u0 u1 u2 u3 u4 u5) P) : ∀ r i n u4, i + r = 8 → r < n → (∀ j, j < i → u4 (8 * k + j) = nI (leP u2 (4 * j) 4)) → (∀ j, j < 8 * k ∨ 8 * k + 8 ≤ j → u4 j = U4 j) → ok (x_M_isRoot_234 fu z st ti k26 k35 n (nI m) (nI pl) x4 (nI n') (nI (2 * k)) (nI i) u0 u1 u2 u3 u4 u5) P := by
  intro r
  induction r with
  | zero =>
    intro i n u4 hi hn h1 h2
    obtain ⟨n, rfl⟩ : ∃ m, n = m + 1 := ⟨n - 1, by omega⟩
    show ok (xb_M_isRoot_234 fu z st ti k26 k35 (x_M_isRoot_234 fu z st ti k26 k35 n) (nI m) (nI pl) x4 (nI n') (nI (2 * k)) (nI i) u0 u1 u2 u3 u4 u5) _
    unfold xb_M_isRoot_234
    exact ok_t ((nI_leI (a := 8) (by omega) (by omega)).mpr (by omega)) (ok_bn (nI_add (2 * k) 2) (h u4 (fun j hj => h1 j (by omega)) h2))
  | succ r ih =>
    intro i n u4 hi hn h1 h2
    obtain ⟨n, rfl⟩ : ∃ m, n = m + 1 := ⟨n - 1, by omega⟩
    show ok (xb_M_isRoot_234 fu z st ti k26 k35 (x_M_isRoot_234 fu z st ti k26 k35 n) (nI m) (nI pl) x4 (nI n') (nI (2 * k)) (nI i) u0 u1 u2 u3 u4 u5) _
    unfold xb_M_isRoot_234
    refine ok_f (fun e => by have := (nI_leI (a := 8) (by omega) (by omega)).mp e; omega) (ok_bn (e' := nI (8 * k)) (by rw [show (4 : Int32) = nI 4 from rfl, pk_mul, show 4 * (2 * k) = 8 * k from by omega]) (ok_bn (nI_add _ _) (ok_bn (pk_mul 4 i) ?_)))
    refine ok_bd1 (ok_of (m_small fu 32 (by decide) u2 (o := 4 * i) (by omega)) rfl) (fun v hv => ?_)
    subst hv
    refine ok_gd (inb_nI (by omega) (by decide)) (ok_bnd (ok_bn (nI_1 i) ?_))
    rw [nI_clamp (n := 8 * k + i) (by omega)]
    refine ih (i + 1) n _ (by omega) (by omega) (fun j hj => ?_) (fun j hj => ?_)
    · by_cases q : j = i
      · rw [q, pk_us]
      · rw [pk_un (by omega)]
        exact h1 j (by omega)
    · rw [pk_un (by omega)]
      exact h2 j hj
set_option maxHeartbeats 400000 in
theorem l_rt142 (fu : Nat) (hfu : 1600 ≤ fu) (z st ti : Nat → Int32) (k26 : Int32 → Int32 → Int32 → Int32 → (Nat → Int32) → (Nat → Int32) → (Nat → Int32) → (Nat → Int32) → (Nat → Int32) → (Nat → Int32) → Option (Int32 × (Nat → Int32) × (Nat → Int32) × (Nat → Int32) × (Nat → Int32) × (Nat → Int32) × (Nat → Int32))) (k35 : Int32 → Int32 → Int32 → Int32 → Int32 → (Nat → Int32) → (Nat → Int32) → (Nat → Int32) → (Nat → Int32) → (Nat → Int32) → (Nat → Int32) → Option (Int32 × (Nat → Int32) × (Nat → Int32) × (Nat → Int32) × (Nat → Int32) × (Nat → Int32) × (Nat → Int32))) {m pl n' k o : Nat} {x4 : Int32} (hk : k ≤ 400) (ho : o ≤ 800) {A B : Nat → Int32} (P : T7r → Prop) (u0 u1 u2 u3 u4 : Nat → Int32) (hA : ∀ i, i < 8 → u4 (8 * (2 * k) + i) = nI (leP A (4 * i) 4)) (hB : ∀ i, i < 8 → u4 (8 * o + i) = nI (leP B (4 * i) 4)) (fA : ∀ j, j < 32 → fits .byte (.int (A j)) = true) (fB : ∀ j, j < 32 → fits .byte (.int (B j)) = true) (h : ∀ u0 u1 u2 u3 u4' u5, (∀ i, i < 8 → u4' (8 * k + i) = nI (leP (dbl (prH A B) 64) (4 * i) 4)) → (∀ j, j < 8 * k ∨ 8 * k + 8 ≤ j → u4' j = u4 j) → ok (k35 (nI m) (nI pl) x4 (nI n') (nI (2 * k + 2)) u0 u1 u2 u3 u4' u5) P) : ∀ r i n u5, i + r = 32 → r < n → (∀ j, j < i → u5 j = A j ∧ u5 (32 + j) = B j) → ok (x_M_isRoot_142 fu z st ti k26 k35 n (nI m) (nI pl) x4 (nI n') (nI (2 * k)) (nI o) (nI i) u0 u1 u2 u3 u4 u5) P := by
  intro r
  induction r with
  | zero =>
    intro i n u5 hi hn h1
    obtain ⟨n, rfl⟩ : ∃ m, n = m + 1 := ⟨n - 1, by omega⟩
    show ok (xb_M_isRoot_142 fu z st ti k26 k35 (x_M_isRoot_142 fu z st ti k26 k35 n) (nI m) (nI pl) x4 (nI n') (nI (2 * k)) (nI o) (nI i) u0 u1 u2 u3 u4 u5) _
    unfold xb_M_isRoot_142
    refine ok_t ((nI_leI (a := 32) (by omega) (by omega)).mpr (by omega)) ?_
    have e5 : ∀ j, j < 64 → u5 (0 + j) = prH A B j := fun j hj => by
      unfold prH
      rw [Nat.zero_add]
      by_cases q : j < 32
      · rw [if_pos q]; exact (h1 j (by omega)).1
      · rw [if_neg q]
        have := (h1 (j - 32) (by omega)).2
        rw [show 32 + (j - 32) = j from by omega] at this
        exact this
    rw [show (0 : Int32) = nI 0 from rfl, show (64 : Int32) = nI 64 from rfl]
    refine ok_bd4 (v_M_twice fu hfu z 64 u5 (by decide) (a := 0) (N := 64) (by decide) (by decide) u0 u1 u2 u3 (fun j hj => ?_)) (fun f1 f2 f3 f4 hd => ?_)
    · rw [e5 j hj]
      unfold prH
      by_cases q : j < 32
      · rw [if_pos q]; exact fA j q
      · rw [if_neg q]; exact fB _ (by omega)
    · replace hd : ∀ j, f3 j = if j < 32 then dbl (fun i => u5 (0 + i)) 64 j else u2 j := hd
      rw [dbl_c (m := fun i => u5 (0 + i)) (m' := prH A B) (n := 64) e5] at hd
      have e3 : ∀ i, i < 8 → leP f3 (4 * i) 4 = leP (dbl (prH A B) 64) (4 * i) 4 := fun i hi => leP_c fun j hj => by rw [hd, if_pos (by omega)]
      refine l_rt234 fu z st ti k26 k35 hk P f1 f2 f3 f4 u5 (U4 := u4) (fun u4' x y => h f1 f2 f3 f4 u4' u5 (fun i hi => by rw [x i hi, e3 i hi]) y) 8 0 fu u4 (by omega) (by omega) (fun j hj => by omega) (fun _ _ => rfl)
  | succ r ih =>
    intro i n u5 hi hn h1
    obtain ⟨n, rfl⟩ : ∃ m, n = m + 1 := ⟨n - 1, by omega⟩
    show ok (xb_M_isRoot_142 fu z st ti k26 k35 (x_M_isRoot_142 fu z st ti k26 k35 n) (nI m) (nI pl) x4 (nI n') (nI (2 * k)) (nI o) (nI i) u0 u1 u2 u3 u4 u5) _
    unfold xb_M_isRoot_142
    have e4 : nI i / (4 : Int32) = nI (i / 4) := pk_div (d := 4) (by omega) (by decide) (by decide)
    have er : nI i - nI i / (4 : Int32) * (4 : Int32) = nI (i % 4) := pk_rem (d := 4) (by omega) (by decide) (by decide)
    rw [er, e4]
    have wA := w_by (p := A) (a := 4 * (i / 4)) (r := i % 4) (by omega) (by rw [show 4 * (i / 4) + i % 4 = i from by omega]; exact fA i (by omega))
    have wB := w_by (p := B) (a := 4 * (i / 4)) (r := i % 4) (by omega) (by rw [show 4 * (i / 4) + i % 4 = i from by omega]; exact fB i (by omega))
    rw [show 4 * (i / 4) + i % 4 = i from by omega] at wA wB
    refine ok_f (fun e => by have := (nI_leI (a := 32) (by omega) (by omega)).mp e; omega) (ok_bn (pk_mul 8 (2 * k)) (ok_bn (nI_add _ _) (ok_gd (inb_nI (by omega) (by decide)) (ok_bn (by rw [nI_clamp (n := 8 * (2 * k) + i / 4) (by omega), hA (i / 4) (by omega)]) (ok_bn wA (ok_gd (inb_nI (by omega) (by decide)) (ok_bnd ?_)))))))
    refine ok_bn (nI_add 32 i) (ok_bn (pk_mul 8 o) (ok_bn (nI_add _ _) (ok_gd (inb_nI (by omega) (by decide)) (ok_bn (by rw [nI_clamp (n := 8 * o + i / 4) (by omega), hB (i / 4) (by omega)]) (ok_bn wB (ok_gd (inb_nI (by omega) (by decide)) (ok_bnd (ok_bn (nI_1 i) ?_))))))))
    have vA : vp_nar .byte (A i) = A i := by rw [← wA]; exact pk_vb _
    have vB : vp_nar .byte (B i) = B i := by rw [← wB]; exact pk_vb _
    rw [nI_clamp (n := i) (by omega), nI_clamp (n := 32 + i) (by omega), vA, vB]
    refine ih (i + 1) n _ (by omega) (by omega) (fun j hj => ?_)
    by_cases q : j = i
    · rw [q]
      exact ⟨by rw [pk_un (by omega), pk_us], pk_us⟩
    · rw [pk_un (by omega), pk_un (by omega), pk_un (by omega), pk_un (by omega)]
      exact h1 j (by omega)
