-- the reference's isSound: a transaction
def sI (st : Nat → Int32) (sc ln : Nat → Nat) (m : Nat) : Nat := sgK (bl st (sc m) (ln m))
/-- what is asked behind the inputs -/
def enQ (st : Nat → Int32) (t t0 s l L h tm : Nat) (SQ : Prop) : Prop := (t = t0 → hgQ (bl st s l) h) ∧ fiQ L h tm SQ
set_option maxHeartbeats 400000 in
theorem l_s179 (fu : Nat) (hfu : 4000 ≤ fu) (st v4 v5 v6 v7 v8 v9 v10 v11 v12 : Nat → Int32) (v14 : Nat → Int64) (v15 v16 : Nat → Int32) (hst : ftB st) (k12 : Int32 → Int32 → Int32 → Int32 → Int32 → Int32 → (Nat → Int32) → (Nat → Int32) → (Nat → Int32) → Option (Int32 × (Nat → Int32) × (Nat → Int32) × (Nat → Int32))) {t0 m h tm t i l L : Nat} {at' sc ln sq : Nat → Nat} {w : Nat → List Int32} (hil : i + l ≤ 2600) (hl0 : 0 < l) (ht : t < 2200) (ht0 : t0 < 2200) (h4 : v4 t = nI i) (h5 : v5 t = nI l) (h8 : v8 t = nI L) (hL : L < 2 ^ 32) (hh : h < 128) (htm : tm < 2 ^ 32) (hv : ∀ k, k < l → v9 (i + k) = nI (at' k) ∧ v10 (i + k) = nI (sc k) ∧ v11 (i + k) = nI (ln k) ∧ v12 (i + k) = nI (sq k) ∧ at' k + 36 ≤ 103000 ∧ sc k + ln k ≤ 103000 ∧ ln k ≤ 3000 ∧ sq k < 2 ^ 32 ∧ w k = bl st (at' k) 36) {U0 u0 u1 u2 : Nat → Int32} (hi9 : i9 U0 u0 u1) (Q : T4s → Prop) {S : Prop}
    (h0 : ¬ S → ∀ u0 u1 u2, i9 U0 u0 u1 → Q (0, u0, u1, u2)) {C : Nat} (h1 : S → ∀ u0 u1 u2, i9 U0 u0 u1 → ok (k12 (nI t0) (nI m) (nI h) (nI tm) (nI C) (nI (t + 1)) u0 u1 u2) Q) : ∀ r j n c x9 SQ, j + r = l → r < n → tf SQ x9 → c + rs (sI st sc ln) j r = C → fa (ipQ (t = t0) w ln) 0 j → (S ↔ fa (ipQ (t = t0) w ln) j l ∧ enQ st t t0 (sc 0) (ln 0) L h tm (SQ ∧ fa (sqQ sq) j l)) → ok (x_M_isSound_179 fu st v4 v5 v6 v7 v8 v9 v10 v11 v12 v14 v15 v16 k12 n (nI t0) (nI m) (nI h) (nI tm) (nI c) (nI t) x9 (nI (i + j)) u0 u1 u2) Q := by
  have hib : inb (nI t) 2200 = true := inb_nI ht (by decide)
  have hct : (nI t).toNatClampNeg = t := nI_clamp (n := t) (by omega)
  intro r
  induction r with
  | zero =>
    intro j n c x9 SQ hj hn hx hC hA hS
    obtain ⟨n, rfl⟩ : ∃ m, n = m + 1 := ⟨n - 1, by omega⟩
    have hC : c = C := hC
    subst hC
    have ej : j = l := by omega
    subst ej
    show ok (xb_M_isSound_179 fu st v4 v5 v6 v7 v8 v9 v10 v11 v12 v14 v15 v16 k12 (x_M_isSound_179 fu st v4 v5 v6 v7 v8 v9 v10 v11 v12 v14 v15 v16 k12 n) (nI t0) (nI m) (nI h) (nI tm) (nI c) (nI t) x9 (nI (i + j)) u0 u1 u2) _
    unfold xb_M_isSound_179
    rw [hct, h4, h5]
    refine ok_gd hib (ok_bnd (ok_gd hib (ok_bnd (ok_t (by rw [nI_add]; exact Int32.le_refl _) ?_))))
    have hS' : S ↔ enQ st t t0 (sc 0) (ln 0) L h tm SQ := by
      rw [hS]
      unfold enQ
      have e : (SQ ∧ fa (sqQ sq) j j) ↔ SQ := ⟨fun z => z.1, fun z => ⟨z, fa_e (Nat.le_refl _)⟩⟩
      have e2 : fiQ L h tm (SQ ∧ fa (sqQ sq) j j) ↔ fiQ L h tm SQ := by unfold fiQ; rw [e]
      rw [e2]
      exact ⟨fun z => z.2, fun z => ⟨fa_e (Nat.le_refl _), z⟩⟩
    by_cases q : t = t0
    · refine ok_t (by rw [q]) (ok_gd hib (ok_bnd ?_))
      have e1 : j = 1 := by
        by_cases q2 : j = 1
        · exact q2
        · exfalso
          have a0 := (hA 0 (Nat.le_refl _) (by omega)).1
          have a1 := (hA 1 (Nat.zero_le _) (by omega)).1
          obtain ⟨-, -, -, -, -, -, -, -, w0⟩ := hv 0 (by omega)
          obtain ⟨-, -, -, -, -, -, -, -, w1⟩ := hv 1 (by omega)
          have n0 := a0.1.mpr q
          have n1 := a1.1.mpr q
          rw [w0] at n0
          rw [w1] at n1
          exact a1.2 0 (Nat.le_refl _) (by omega) (by rw [w0, w1]; exact isN_u hst n1 n0)
      refine ok_t (by rw [e1]; rfl) (ok_gd hib (ok_bnd ?_))
      obtain ⟨-, b2, b3, -, -, b6, b7, -, -⟩ := hv 0 (by omega)
      rw [Nat.add_zero] at b2 b3
      refine ok_bd4 (v_M_isHeight fu (by omega) st v10 v11 hst (m := i) (by omega) b2 b3 b6 (by omega) hh u0 u1 u2 hi9) (fun v5' f6 f7 f8 hp => ?_)
      obtain ⟨p1, p2⟩ := hp
      refine ok_tf p1 (fun z => ok_some (h0 (fun s => z ((hS'.mp s).1 q)) _ _ _ p2)) (fun z => ?_)
      exact l_s353 fu st v4 v5 v6 v7 v8 v9 v10 v11 v12 v14 v15 v16 k12 hx ht h8 hL hh htm f6 f7 f8 Q (fun y => h1 (hS'.mpr ⟨fun _ => z, y⟩) _ _ _ p2) (fun y => h0 (fun s => y (hS'.mp s).2) _ _ _ p2)
    · refine ok_f (fun z => q ((nI_eq (by omega) (by omega)).mp z)) ?_
      exact l_s353 fu st v4 v5 v6 v7 v8 v9 v10 v11 v12 v14 v15 v16 k12 hx ht h8 hL hh htm u0 u1 u2 Q (fun y => h1 (hS'.mpr ⟨fun z => absurd z q, y⟩) _ _ _ hi9) (fun y => h0 (fun s => y (hS'.mp s).2) _ _ _ hi9)
  | succ r ih =>
    intro j n c x9 SQ hj hn hx hC hA hS
    obtain ⟨n, rfl⟩ : ∃ m, n = m + 1 := ⟨n - 1, by omega⟩
    show ok (xb_M_isSound_179 fu st v4 v5 v6 v7 v8 v9 v10 v11 v12 v14 v15 v16 k12 (x_M_isSound_179 fu st v4 v5 v6 v7 v8 v9 v10 v11 v12 v14 v15 v16 k12 n) (nI t0) (nI m) (nI h) (nI tm) (nI c) (nI t) x9 (nI (i + j)) u0 u1 u2) _
    unfold xb_M_isSound_179
    rw [hct, h4, h5]
    refine ok_gd hib (ok_bnd (ok_gd hib (ok_bnd (ok_f (fun z => by rw [nI_add] at z; have := (nI_leI (by omega) (by omega)).mp z; omega) (ok_gd hib (ok_bnd ?_))))))
    refine l_s208 fu hfu st v4 v5 v6 v7 v8 v9 v10 v11 v12 v14 v15 v16 k12 (x_M_isSound_179 fu st v4 v5 v6 v7 v8 v9 v10 v11 v12 v14 v15 v16 k12 n) hx hil (by omega) (by omega) (by omega) hv u0 u1 u2 Q (fun y x9' hx' => ?_) (fun y => h0 (fun s => fa_n (Q := ipQ (t = t0) w ln) (by omega) y (hS.mp s).1) _ _ _ hi9) j 0 fu (by omega) (by omega) (fun z => z)
    refine ih (j + 1) n _ x9' _ (by omega) (by omega) hx' ?_ ?_ ?_
    · rw [← hC, rs_s, Nat.add_assoc]
      rfl
    · intro k a b
      by_cases e : k = j
      · rw [e]; exact y
      · exact hA k a (by omega)
    · rw [hS, ← fa_s (Q := ipQ (t = t0) w ln) (j := j) (n := l) y]
      have e : (SQ ∧ fa (sqQ sq) j l) ↔ ((SQ ∧ sq j = 4294967295) ∧ fa (sqQ sq) (j + 1) l) := by
        constructor
        · intro z
          exact ⟨⟨z.1, z.2 j (Nat.le_refl _) (by omega)⟩, fun k a b => z.2 k (by omega) b⟩
        · intro z
          exact ⟨z.1.1, (fa_s (Q := sqQ sq) (j := j) (n := l) z.1.2).mp z.2⟩
      unfold enQ fiQ
      rw [e]
/-- one transaction -/
def tQ (st : Nat → Int32) (t t0 l lo L h tm : Nat) (w : Nat → List Int32) (sc ln sq v ol : Nat → Nat) : Prop := (0 < l ∧ 0 < lo) ∧ (fa (amQ v) 0 lo ∧ fa (leQ ol) 0 lo) ∧ fa (ipQ (t = t0) w ln) 0 l ∧ enQ st t t0 (sc 0) (ln 0) L h tm (fa (sqQ sq) 0 l)
set_option maxHeartbeats 400000 in
theorem l_s57 (fu : Nat) (hfu : 4000 ≤ fu) (st v4 v5 v6 v7 v8 v9 v10 v11 v12 : Nat → Int32) (v14 : Nat → Int64) (v15 v16 : Nat → Int32) (hst : ftB st) (k12 : Int32 → Int32 → Int32 → Int32 → Int32 → Int32 → (Nat → Int32) → (Nat → Int32) → (Nat → Int32) → Option (Int32 × (Nat → Int32) × (Nat → Int32) × (Nat → Int32))) {t0 m h tm t i l o lo L : Nat} {at' sc ln sq v oa ol : Nat → Nat} {w : Nat → List Int32} (hil : i + l ≤ 2600) (hl0 : 0 < l) (hol : o + lo ≤ 11600) (ht : t < 2200) (ht0 : t0 < 2200) (h4 : v4 t = nI i) (h5 : v5 t = nI l) (h6 : v6 t = nI o) (h7 : v7 t = nI lo) (h8 : v8 t = nI L) (hL : L < 2 ^ 32) (hh : h < 128) (htm : tm < 2 ^ 32) (hv : ∀ k, k < l → v9 (i + k) = nI (at' k) ∧ v10 (i + k) = nI (sc k) ∧ v11 (i + k) = nI (ln k) ∧ v12 (i + k) = nI (sq k) ∧ at' k + 36 ≤ 103000 ∧ sc k + ln k ≤ 103000 ∧ ln k ≤ 3000 ∧ sq k < 2 ^ 32 ∧ w k = bl st (at' k) 36) (ho : ∀ k, k < lo → v14 (o + k) = lN (v k) ∧ v15 (o + k) = nI (oa k) ∧ v16 (o + k) = nI (ol k) ∧ v k < 2 ^ 64 ∧ oa k + ol k ≤ 103000 ∧ ol k ≤ 3000) {U0 u0 u1 u2 : Nat → Int32} (hi9 : i9 U0 u0 u1) (Q : T4s → Prop) {S : Prop}
    (h0 : ¬ S → ∀ u0 u1 u2, i9 U0 u0 u1 → Q (0, u0, u1, u2)) {C : Nat} (h1 : S → ∀ u0 u1 u2, i9 U0 u0 u1 → ok (k12 (nI t0) (nI m) (nI h) (nI tm) (nI C) (nI (t + 1)) u0 u1 u2) Q) : ∀ r j n c, j + r = lo → r < n → osm v j ≤ 2100000000000000 → c + rs (sI st oa ol) j r + rs (sI st sc ln) 0 l = C → (S ↔ (fa (amQ v) j lo ∧ fa (leQ ol) j lo) ∧ fa (ipQ (t = t0) w ln) 0 l ∧ enQ st t t0 (sc 0) (ln 0) L h tm (fa (sqQ sq) 0 l)) → ok (x_M_isSound_57 fu st v4 v5 v6 v7 v8 v9 v10 v11 v12 v14 v15 v16 k12 n (nI t0) (nI m) (nI h) (nI tm) (nI c) (nI t) (lN (osm v j)) (1 : Int32) (nI (o + j)) u0 u1 u2) Q := by
  have hib : inb (nI t) 2200 = true := inb_nI ht (by decide)
  have hct : (nI t).toNatClampNeg = t := nI_clamp (n := t) (by omega)
  intro r
  induction r with
  | zero =>
    intro j n c hj hn hs hC hS
    obtain ⟨n, rfl⟩ : ∃ m, n = m + 1 := ⟨n - 1, by omega⟩
    replace hC : c + 0 + rs (sI st sc ln) 0 l = C := hC
    rw [Nat.add_zero] at hC
    have ej : j = lo := by omega
    subst ej
    show ok (xb_M_isSound_57 fu st v4 v5 v6 v7 v8 v9 v10 v11 v12 v14 v15 v16 k12 (x_M_isSound_57 fu st v4 v5 v6 v7 v8 v9 v10 v11 v12 v14 v15 v16 k12 n) (nI t0) (nI m) (nI h) (nI tm) (nI c) (nI t) (lN (osm v j)) (1 : Int32) (nI (o + j)) u0 u1 u2) _
    unfold xb_M_isSound_57
    rw [hct, h6, h7, h4]
    refine ok_gd hib (ok_bnd (ok_gd hib (ok_bnd (ok_t (by rw [nI_add]; exact Int32.le_refl _) (ok_gd hib (ok_bnd ?_))))))
    refine l_s179 fu hfu st v4 v5 v6 v7 v8 v9 v10 v11 v12 v14 v15 v16 hst k12 hil hl0 ht ht0 h4 h5 h8 hL hh htm hv hi9 Q h0 h1 l 0 fu c 1 True (by omega) (by omega) (tf_1 trivial) hC (fa_e (Nat.le_refl _)) ?_
    rw [hS]
    have e : (True ∧ fa (sqQ sq) 0 l) ↔ fa (sqQ sq) 0 l := ⟨fun z => z.2, fun z => ⟨trivial, z⟩⟩
    have e2 : fiQ L h tm (True ∧ fa (sqQ sq) 0 l) ↔ fiQ L h tm (fa (sqQ sq) 0 l) := by unfold fiQ; rw [e]
    unfold enQ
    rw [e2]
    exact ⟨fun z => z.2, fun z => ⟨⟨fa_e (Nat.le_refl _), fa_e (Nat.le_refl _)⟩, z⟩⟩
  | succ r ih =>
    intro j n c hj hn hs hC hS
    obtain ⟨n, rfl⟩ : ∃ m, n = m + 1 := ⟨n - 1, by omega⟩
    show ok (xb_M_isSound_57 fu st v4 v5 v6 v7 v8 v9 v10 v11 v12 v14 v15 v16 k12 (x_M_isSound_57 fu st v4 v5 v6 v7 v8 v9 v10 v11 v12 v14 v15 v16 k12 n) (nI t0) (nI m) (nI h) (nI tm) (nI c) (nI t) (lN (osm v j)) (1 : Int32) (nI (o + j)) u0 u1 u2) _
    unfold xb_M_isSound_57
    obtain ⟨b1, b2, b3, b4, b5, b6⟩ := ho j (by omega)
    have hio : inb (nI (o + j)) 11600 = true := inb_nI (by omega) (by decide)
    rw [hct, h6, h7, nI_clamp (n := o + j) (by omega), b1, b2, b3]
    refine ok_gd hib (ok_bnd (ok_gd hib (ok_bnd (ok_f (fun z => by rw [nI_add] at z; have := (nI_leI (by omega) (by omega)).mp z; omega) (ok_gd hio (ok_bnd ?_))))))
    by_cases c1 : 2 ^ 63 ≤ v j
    · refine ok_t ((am_lo b4).mpr c1) (ok_some (h0 (fun e => fa_n (Q := amQ v) (by omega) (fun z => ?_) (hS.mp e).1.1) _ _ _ hi9))
      have := z.1
      omega
    refine ok_f (fun e => c1 ((am_lo b4).mp e)) (ok_gd hio (ok_bnd ?_))
    by_cases c2 : 2100000000000000 < v j
    · refine ok_t ((am_hi (by omega)).mpr c2) (ok_some (h0 (fun e => fa_n (Q := amQ v) (by omega) (fun z => ?_) (hS.mp e).1.1) _ _ _ hi9))
      have := z.1
      omega
    refine ok_f (fun e => c2 ((am_hi (by omega)).mp e)) (ok_gd hio (ok_bnd ?_))
    have hK : nI (ol j) ≤ (1000 : Int32) ↔ ol j ≤ 1000 := nI_leI (a := ol j) (b := 1000) (by omega) (by decide)
    by_cases c3 : ol j ≤ 1000
    · refine ok_t (hK.mpr c3) (ok_gd hio (ok_bnd (ok_bn (lN_a _ _) ?_)))
      by_cases c4 : osm v j + v j ≤ 2100000000000000
      · refine ok_t ((am_le (by omega)).mpr c4) (ok_gd hio (ok_bnd (ok_gd hio (ok_bnd ?_))))
        refine ok_bd1 (v_M_sigsOf fu hfu u0 st b5 (by omega)) (fun x hx => ?_)
        subst hx
        refine ok_bn (nI_add _ _) (ok_bn (nI_1 _) ?_)
        refine ih (j + 1) n _ (by omega) (by omega) c4 ?_ ?_
        · rw [← hC, rs_s, Nat.add_assoc c]
          rfl
        · rw [hS, ← fa_s (Q := amQ v) (j := j) (n := lo) ⟨by omega, c4⟩, ← fa_s (Q := leQ ol) (j := j) (n := lo) c3]
      · exact ok_f (fun e => c4 ((am_le (by omega)).mp e)) (ok_some (h0 (fun e => fa_n (Q := amQ v) (by omega) (fun z => c4 z.2) (hS.mp e).1.1) _ _ _ hi9))
    · exact ok_f (fun e => c3 (hK.mp e)) (ok_some (h0 (fun e => fa_n (Q := leQ ol) (by omega) c3 (hS.mp e).1.2) _ _ _ hi9))
set_option maxHeartbeats 400000 in
theorem l_sTx (fu : Nat) (hfu : 4000 ≤ fu) (st v4 v5 v6 v7 v8 v9 v10 v11 v12 : Nat → Int32) (v14 : Nat → Int64) (v15 v16 : Nat → Int32) (hst : ftB st) (k12 : Int32 → Int32 → Int32 → Int32 → Int32 → Int32 → (Nat → Int32) → (Nat → Int32) → (Nat → Int32) → Option (Int32 × (Nat → Int32) × (Nat → Int32) × (Nat → Int32))) {t0 m h tm t i l o lo L : Nat} {at' sc ln sq v oa ol : Nat → Nat} {w : Nat → List Int32} (hm : t < t0 + m) (hm2 : t0 + m < 2 ^ 20) (hil : i + l ≤ 2600) (hlf : l < fu) (hol : o + lo ≤ 11600) (hof : lo < fu) (ht : t < 2200) (ht0 : t0 < 2200) (h4 : v4 t = nI i) (h5 : v5 t = nI l) (h6 : v6 t = nI o) (h7 : v7 t = nI lo) (h8 : v8 t = nI L) (hL : L < 2 ^ 32) (hh : h < 128) (htm : tm < 2 ^ 32) (hv : ∀ k, k < l → v9 (i + k) = nI (at' k) ∧ v10 (i + k) = nI (sc k) ∧ v11 (i + k) = nI (ln k) ∧ v12 (i + k) = nI (sq k) ∧ at' k + 36 ≤ 103000 ∧ sc k + ln k ≤ 103000 ∧ ln k ≤ 3000 ∧ sq k < 2 ^ 32 ∧ w k = bl st (at' k) 36) (ho : ∀ k, k < lo → v14 (o + k) = lN (v k) ∧ v15 (o + k) = nI (oa k) ∧ v16 (o + k) = nI (ol k) ∧ v k < 2 ^ 64 ∧ oa k + ol k ≤ 103000 ∧ ol k ≤ 3000) {U0 u0 u1 u2 : Nat → Int32} (hi9 : i9 U0 u0 u1) (Q : T4s → Prop) (c : Nat)
    (h0 : ¬ tQ st t t0 l lo L h tm w sc ln sq v ol → ∀ u0 u1 u2, i9 U0 u0 u1 → Q (0, u0, u1, u2)) (h1 : tQ st t t0 l lo L h tm w sc ln sq v ol → ∀ u0 u1 u2, i9 U0 u0 u1 → ok (k12 (nI t0) (nI m) (nI h) (nI tm) (nI (c + rs (sI st oa ol) 0 lo + rs (sI st sc ln) 0 l)) (nI (t + 1)) u0 u1 u2) Q) : ok (xb_M_isSound_12 fu st v4 v5 v6 v7 v8 v9 v10 v11 v12 v14 v15 v16 k12 (nI t0) (nI m) (nI h) (nI tm) (nI c) (nI t) u0 u1 u2) Q := by
  unfold xb_M_isSound_12
  have hib : inb (nI t) 2200 = true := inb_nI ht (by decide)
  have hct : (nI t).toNatClampNeg = t := nI_clamp (n := t) (by omega)
  rw [hct, h5, h6, h7]
  refine ok_f (fun z => by rw [nI_add] at z; have := (nI_leI (by omega) (by omega)).mp z; omega) (ok_gd hib (ok_bnd ?_))
  by_cases q1 : l = 0
  · refine ok_t (by rw [q1]; rfl) (ok_some (h0 (fun z => ?_) _ _ _ hi9))
    have := z.1.1
    omega
  refine ok_f (fun z => q1 ((nI_eq (b := 0) (by omega) (by omega)).mp z)) (ok_gd hib (ok_bnd ?_))
  by_cases q2 : lo = 0
  · refine ok_t (by rw [q2]; rfl) (ok_some (h0 (fun z => ?_) _ _ _ hi9))
    have := z.1.2
    omega
  refine ok_f (fun z => q2 ((nI_eq (b := 0) (by omega) (by omega)).mp z)) (ok_gd hib (ok_bnd ?_))
  refine l_s57 fu hfu st v4 v5 v6 v7 v8 v9 v10 v11 v12 v14 v15 v16 hst k12 hil (by omega) hol ht ht0 h4 h5 h6 h7 h8 hL hh htm hv ho hi9 Q h0 h1 lo 0 fu c (by omega) hof (by show 0 ≤ _; omega) rfl ?_
  unfold tQ
  exact ⟨fun z => z.2, fun z => ⟨⟨by omega, by omega⟩, z⟩⟩
