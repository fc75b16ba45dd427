-- the reference: the bits wanted, the median of times
/-- the reference's table of blocks -/
def rTb (nb : Nat) (par hgt tim : Nat → Nat) (bit : Nat → Int32) (gp gh gt gbi : Nat → Int32) : Prop := chI nb par hgt ∧ gp 0 = -1 ∧ ∀ k, k < nb → (0 < k → gp k = nI (par k)) ∧ gh k = nI (hgt k) ∧ gt k = nI (tim k) ∧ tim k < 2 ^ 32 ∧ gbi k = bit k ∧ gT (bit k) (hgt k / 8) ∧ hgt k ≤ 60
set_option maxHeartbeats 400000 in
theorem sub_l {a b : Nat} (ha : a < 2 ^ 62) (hb : b < 2 ^ 62) : (lN a - lN b).toInt = (a : Int) - (b : Int) := by
  rw [Int64.toInt_sub, lN_I (by omega), lN_I (by omega), Int.bmod_eq_of_le (by omega) (by omega)]
set_option maxHeartbeats 400000 in
theorem tkT_e {a b : Nat} (ha : a < 2 ^ 32) (hb : b < 2 ^ 32) : (if (if (lN a - lN b) < (19200 : Int64) then (lN a - lN b) else (19200 : Int64)) < (1200 : Int64) then (1200 : Int64) else (if (lN a - lN b) < (19200 : Int64) then (lN a - lN b) else (19200 : Int64))) = lN (tkT a b) := by
  have hs := sub_l (a := a) (b := b) (by omega) (by omega)
  have e1 : (lN a - lN b) < (19200 : Int64) ↔ (a : Int) - b < 19200 := by
    rw [Int64.lt_iff_toInt_lt, hs]; rfl
  have e2 : (lN a - lN b) < (1200 : Int64) ↔ (a : Int) - b < 1200 := by
    rw [Int64.lt_iff_toInt_lt, hs]; rfl
  by_cases q : (a : Int) - b < 19200
  · rw [if_pos (e1.mpr q)]
    by_cases r : (a : Int) - b < 1200
    · rw [if_pos (e2.mpr r), show tkT a b = 1200 from by unfold tkT; omega]
      rfl
    · rw [if_neg (fun z => r (e2.mp z)), show tkT a b = a - b from by unfold tkT; omega]
      refine Int64.toInt_inj.mp ?_
      rw [hs, lN_I (by omega)]
      omega
  · rw [if_neg (fun z => q (e1.mp z)), if_neg (by decide), show tkT a b = 19200 from by unfold tkT; omega]
    rfl
set_option maxHeartbeats 400000 in
theorem tkT_b (a b : Nat) : 1200 ≤ tkT a b ∧ tkT a b ≤ 19200 := by
  unfold tkT
  omega
set_option maxHeartbeats 400000 in
theorem gT_lo {x : Int32} {j e m t : Nat} (hj : j ≤ 7) (hT : 2 ^ (254 - 3 * j) ≤ Tg e m) (ht : 1200 ≤ t) : 2 ^ 224 ≤ Tg e m * t / 4800 := by
  have h1 : 2 ^ 233 ≤ Tg e m := Nat.le_trans (Nat.pow_le_pow_right (by decide) (by omega)) hT
  rw [Nat.le_div_iff_mul_le (by decide)]
  exact Nat.le_trans (by decide +kernel : 2 ^ 224 * 4800 ≤ 2 ^ 233 * 1200) (Nat.mul_le_mul h1 ht)
set_option maxHeartbeats 400000 in
theorem l_wn25 (fu : Nat) (hfu : 400 ≤ fu) (z : Nat → Int32) {nb : Nat} {par hgt tim : Nat → Nat} {bit : Nat → Int32} {gp gh gt gbi : Nat → Int32} (hT : rTb nb par hgt tim bit gp gh gt gbi) (hnb : nb ≤ 202) {b : Nat} (hb : b < nb) (h8 : (hgt b + 1) % 8 = 0) (u0 u1 : Nat → Int32) : ∀ r k n, r < n → k < nb → hgt k = hgt b - 7 + r → up par r k = up par 7 b → ok (x_M_wanted_25 fu z gp gh gt gbi n (nI b) (nI (hgt b + 1)) (nI k) u0 u1) (fun y => wnQ par hgt tim bit b y.1) := by
  obtain ⟨hC, hp0, hA⟩ := hT
  obtain ⟨-, b2, b3, b4, b5, b6, b7⟩ := hA b hb
  have e8 : nI (hgt b + 1) - (8 : Int32) = nI (hgt b - 7) := by
    have := nI_add (hgt b - 7) 8
    rw [show hgt b - 7 + 8 = hgt b + 1 from by omega] at this
    rw [← this]
    exact Int32.add_sub_cancel _ _
  intro r
  induction r with
  | zero =>
    intro k n hn hk hh hu
    obtain ⟨n, rfl⟩ : ∃ m, n = m + 1 := ⟨n - 1, by omega⟩
    obtain ⟨-, k2, k3, k4, k5, -, -⟩ := hA k hk
    show ok (xb_M_wanted_25 fu z gp gh gt gbi (x_M_wanted_25 fu z gp gh gt gbi n) (nI b) (nI (hgt b + 1)) (nI k) u0 u1) _
    unfold xb_M_wanted_25
    have hik : inb (nI k) 202 = true := inb_nI (by omega) (by decide)
    have hib : inb (nI b) 202 = true := inb_nI (by omega) (by decide)
    rw [e8, nI_clamp (n := k) (by omega), nI_clamp (n := b) (by omega), k2, b3, k3, b5]
    refine ok_gd hik (ok_bnd (ok_t ((nI_leI (by omega) (by omega)).mpr (by omega)) (ok_gd hib (ok_bnd (ok_bnd (ok_bn (by rw [l_mask, U_nI b4]) (ok_gd hik (ok_bnd (ok_bnd ?_)))))))))
    rw [l_mask, U_nI k4]
    refine ok_bnd (ok_bnd (ok_bn (tkT_e b4 k4) (ok_gd hib (ok_bnd ?_))))
    obtain ⟨e, m, g1, g2⟩ := b6
    refine ok_bd2 (v_M_target fu (by omega) z g1 u0) (fun v f hV => ?_)
    replace hV : V f 8 = Tg e m := hV
    have ht := tkT_b (tim b) (tim k)
    refine ok_mono (l_wa102 fu (by omega) z gp gh gt gbi f ht.2 (by rw [hV]; exact gT_lo (x := bit b) (j := hgt b / 8) (by omega) g2 ht.1) 8 0 fu 0 u1 (by omega) (by omega) (by omega) (by show 0 + 0 * 2 ^ (32 * 0) = 0 * tkT (tim b) (tim k); rw [Nat.zero_mul, Nat.zero_mul])) (fun y hy => Or.inr ⟨h8, ?_⟩)
    rw [tgB_e g1, ← hV, ← hu]
    exact hy
  | succ r ih =>
    intro k n hn hk hh hu
    obtain ⟨n, rfl⟩ : ∃ m, n = m + 1 := ⟨n - 1, by omega⟩
    obtain ⟨k1, k2, k3, k4, k5, -, k7⟩ := hA k hk
    show ok (xb_M_wanted_25 fu z gp gh gt gbi (x_M_wanted_25 fu z gp gh gt gbi n) (nI b) (nI (hgt b + 1)) (nI k) u0 u1) _
    unfold xb_M_wanted_25
    have hik : inb (nI k) 202 = true := inb_nI (by omega) (by decide)
    have k0 : 0 < k := chI_0 hC hk (by omega)
    have kp := hC.2.2 k k0 hk
    rw [e8, nI_clamp (n := k) (by omega), k2, k1 k0]
    refine ok_gd hik (ok_bnd (ok_f (fun z => by have := (nI_leI (by omega) (by omega)).mp z; omega) (ok_gd hik (ok_bnd ?_))))
    exact ih (par k) n (by omega) (by omega) (by omega) hu
set_option maxHeartbeats 400000 in
theorem v_M_wanted (fu : Nat) (hfu : 400 ≤ fu) (z : Nat → Int32) {nb : Nat} {par hgt tim : Nat → Nat} {bit : Nat → Int32} {gp gh gt gbi : Nat → Int32} (hT : rTb nb par hgt tim bit gp gh gt gbi) (hnb : nb ≤ 202) {b : Nat} (hb : b < nb) (u0 u1 : Nat → Int32) : ok (x_M_wanted fu z gp gh gt gbi (nI b) u0 u1) (fun y => wnQ par hgt tim bit b y.1) := by
  unfold x_M_wanted
  have hA := hT.2.2 b hb
  obtain ⟨-, b2, b3, b4, b5, b6, b7⟩ := hA
  have hib : inb (nI b) 202 = true := inb_nI (by omega) (by decide)
  rw [nI_clamp (n := b) (by omega), b2, b5]
  refine ok_gd hib (ok_bnd (ok_bn (nI_1 _) ?_))
  rw [show (8 : Int32) = nI 8 from rfl, pk_rem (by omega) (by decide) (by decide)]
  by_cases q : (hgt b + 1) % 8 = 0
  · refine ok_t (by rw [q]; rfl) ?_
    exact l_wn25 fu hfu z hT hnb hb q u0 u1 7 b fu (by omega) hb (by omega) rfl
  · exact ok_f (fun z => q ((nI_eq (b := 0) (by omega) (by omega)).mp z)) (ok_gd hib (ok_bnd (ok_some (Or.inl ⟨q, rfl⟩))))
/-- insertion from the end: lists here are arrays from their last element on -/
def insr (x : Nat) : List Nat → List Nat
  | [] => [x]
  | y :: A => if x < y then y :: insr x A else x :: y :: A
def isr : List Nat → List Nat → List Nat
  | [], A => A
  | x :: L, A => isr L (insr x A)
def med (L : List Nat) : Nat := ((isr L []).reverse).getD (L.length / 2) 0
def tls (par tim : Nat → Nat) : Nat → Nat → List Nat
  | 0, _ => []
  | n + 1, k => tim k :: (if k = 0 then [] else tls par tim n (par k))
set_option maxHeartbeats 400000 in
theorem insr_len (x : Nat) : ∀ A, (insr x A).length = A.length + 1
  | [] => rfl
  | y :: A => by
    unfold insr
    split
    · rw [List.length_cons, insr_len x A]; rfl
    · rfl
set_option maxHeartbeats 400000 in
theorem isr_len : ∀ L A, (isr L A).length = L.length + A.length
  | [], A => (Nat.zero_add _).symm
  | x :: L, A => by
    show (isr L (insr x A)).length = L.length + 1 + A.length
    rw [isr_len L, insr_len]
    omega
def arr (u : Nat → Int32) : Nat → List Nat → Prop
  | _, [] => True
  | a, x :: L => u a = nI x ∧ arr u (a + 1) L
set_option maxHeartbeats 400000 in
theorem arr_ap (u : Nat → Int32) : ∀ X a Y, arr u a (X ++ Y) ↔ arr u a X ∧ arr u (a + X.length) Y
  | [], a, Y => ⟨fun h => ⟨trivial, h⟩, fun h => h.2⟩
  | x :: X, a, Y => by
    show u a = nI x ∧ arr u (a + 1) (X ++ Y) ↔ (u a = nI x ∧ arr u (a + 1) X) ∧ arr u (a + (X.length + 1)) Y
    rw [arr_ap u X (a + 1) Y, show a + 1 + X.length = a + (X.length + 1) from by omega, and_assoc]
set_option maxHeartbeats 400000 in
theorem arr_k {u u' : Nat → Int32} : ∀ X a, (∀ j, a ≤ j → j < a + X.length → u' j = u j) → arr u a X → arr u' a X
  | [], a, _, _ => trivial
  | x :: X, a, h, q => by
    refine ⟨?_, arr_k X (a + 1) (fun j h1 h2 => h j (by omega) (by show j < a + (X.length + 1); omega)) q.2⟩
    rw [h a (Nat.le_refl _) (by show a < a + (X.length + 1); omega)]
    exact q.1
set_option maxHeartbeats 400000 in
theorem arr_g {u : Nat → Int32} : ∀ X a i, i < X.length → arr u a X → u (a + i) = nI (X.getD i 0)
  | [], a, i, h, _ => absurd h (Nat.not_lt_zero _)
  | x :: X, a, 0, h, q => q.1
  | x :: X, a, i + 1, h, q => by
    rw [show a + (i + 1) = a + 1 + i from by omega]
    exact arr_g X (a + 1) i (Nat.lt_of_succ_lt_succ h) q.2
set_option maxHeartbeats 400000 in
theorem l_md49 (fu : Nat) (z gp gt : Nat → Int32) (k41 : Int32 → Int32 → (Nat → Int32) → Option (Int32 × (Nat → Int32))) {N i x : Nat} (hx : x < 2 ^ 32) (R : List Nat) (P : Int32 × (Nat → Int32) → Prop) : ∀ A S u n, (∀ y, y ∈ A → y < 2 ^ 32) → A.length < 11 → A.length < n → arr u 0 (A.reverse ++ x :: (S ++ R)) → (∀ u', arr u' 0 ((insr x A).reverse ++ (S ++ R)) → ok (k41 (nI N) (nI (i + 1)) u') P) → ok (x_M_medianOf_49 fu z gp gt k41 n (nI N) (nI i) (nI A.length) u) P := by
  intro A
  induction A with
  | nil =>
    intro S u n hA hl hn h hk
    obtain ⟨n, rfl⟩ : ∃ m, n = m + 1 := ⟨n - 1, by omega⟩
    show ok (xb_M_medianOf_49 fu z gp gt k41 (x_M_medianOf_49 fu z gp gt k41 n) (nI N) (nI i) (nI 0) u) _
    unfold xb_M_medianOf_49 xb_M_medianOf_118
    exact ok_t (by decide) (ok_bn (nI_1 i) (hk u h))
  | cons y A ih =>
    intro S u n hA hl hn h hk
    replace hl : A.length + 1 < 11 := hl
    replace hn : A.length + 1 < n := hn
    obtain ⟨n, rfl⟩ : ∃ m, n = m + 1 := ⟨n - 1, by omega⟩
    show ok (xb_M_medianOf_49 fu z gp gt k41 (x_M_medianOf_49 fu z gp gt k41 n) (nI N) (nI i) (nI (A.length + 1)) u) _
    unfold xb_M_medianOf_49 xb_M_medianOf_118
    rw [List.reverse_cons, List.append_assoc] at h
    obtain ⟨h1, h2, h3, h4⟩ := (arr_ap u A.reverse 0 _).mp h
    rw [Nat.zero_add, List.length_reverse] at h2 h3 h4
    have hy := hA y List.mem_cons_self
    have e1 : nI (A.length + 1) - (1 : Int32) = nI A.length := by
      rw [← nI_add]; exact Int32.add_sub_cancel _ _
    have hi1 : inb (nI (A.length + 1)) 11 = true := inb_nI (by omega) (by decide)
    have hi0 : inb (nI A.length) 11 = true := inb_nI (by omega) (by decide)
    simp only [↓bnd_q]
    rw [e1, nI_clamp (n := A.length + 1) (by omega), nI_clamp (n := A.length) (by omega), h2, h3, nI_1 i]
    refine ok_f (fun e => by have := (nI_leI (b := 0) (by omega) (by omega)).mp e; omega) (ok_gd hi1 (ok_gd hi0 ?_))
    refine ok_bd1 (ok_of (ig_cu fu (nI x) (nI y)) rfl) (fun v hv => ?_)
    subst hv
    rw [U_nI hx, U_nI hy]
    by_cases q : x < y
    · refine ok_f (fun e => by have := (cmpN_ge _ _).mp e; omega) (ok_gd hi1 (ok_gd hi0 (ok_gd hi1 (ok_gd hi0 ?_))))
      rw [Int32.sub_eq_add_neg] at e1
      rw [show nI (A.length + 1) + (-1 : Int32) = nI A.length from e1]
      refine ih (y :: S) _ n (fun w hw => hA w (List.mem_cons_of_mem _ hw)) (by omega) (by omega) ?_ (fun u' hu' => hk u' ?_)
      · rw [arr_ap, Nat.zero_add, List.length_reverse]
        refine ⟨arr_k _ 0 (fun j a b => ?_) h1, pk_us, ?_⟩
        · rw [Nat.zero_add, List.length_reverse] at b
          rw [pk_un (by omega), pk_un (by omega)]
        · refine ⟨?_, arr_k _ _ (fun j a b => ?_) h4⟩
          · rw [pk_un (by omega), pk_us]
          · rw [pk_un (by omega), pk_un (by omega)]
      · unfold insr
        rw [if_pos q, List.reverse_cons, List.append_assoc]
        exact hu'
    · refine ok_t ((cmpN_ge _ _).mpr (by omega)) (hk u ?_)
      unfold insr
      rw [if_neg q, List.reverse_cons, List.reverse_cons, List.append_assoc, List.append_assoc]
      exact h
set_option maxHeartbeats 400000 in
theorem l_md41 (fu : Nat) (hfu : 20 ≤ fu) (z gp gt : Nat → Int32) : ∀ L A u n, (∀ y, y ∈ L → y < 2 ^ 32) → (∀ y, y ∈ A → y < 2 ^ 32) → 0 < A.length → A.length + L.length ≤ 11 → L.length < n → arr u 0 (A.reverse ++ L) → ok (x_M_medianOf_41 fu z gp gt n (nI (A.length + L.length)) (nI A.length) u) (fun r => r.1 = nI (((isr L A).reverse).getD ((A.length + L.length) / 2) 0)) := by
  intro L
  induction L with
  | nil =>
    intro A u n hL hA h0 hl hn h
    replace hn : 0 < n := hn
    replace hl : A.length + 0 ≤ 11 := hl
    obtain ⟨n, rfl⟩ : ∃ m, n = m + 1 := ⟨n - 1, by omega⟩
    show ok (xb_M_medianOf_41 fu z gp gt (x_M_medianOf_41 fu z gp gt n) (nI (A.length + 0)) (nI A.length) u) _
    unfold xb_M_medianOf_41
    rw [Nat.add_zero, List.append_nil] at *
    refine ok_t (Int32.le_refl _) (ok_bn (show nI A.length / (2 : Int32) = nI (A.length / 2) from pk_div (d := 2) (by omega) (by decide) (by decide)) (ok_gd (inb_nI (by omega) (by decide)) (ok_bnd (ok_some ?_))))
    show u (nI (A.length / 2)).toNatClampNeg = nI ((A.reverse).getD ((A.length + 0) / 2) 0)
    have := arr_g A.reverse 0 (A.length / 2) (by rw [List.length_reverse]; omega) h
    rw [Nat.zero_add] at this
    rw [nI_clamp (n := A.length / 2) (by omega), Nat.add_zero]
    exact this
  | cons x L ih =>
    intro A u n hL hA h0 hl hn h
    replace hn : L.length + 1 < n := hn
    replace hl : A.length + (L.length + 1) ≤ 11 := hl
    obtain ⟨n, rfl⟩ : ∃ m, n = m + 1 := ⟨n - 1, by omega⟩
    show ok (xb_M_medianOf_41 fu z gp gt (x_M_medianOf_41 fu z gp gt n) (nI (A.length + (L.length + 1))) (nI A.length) u) _
    unfold xb_M_medianOf_41
    refine ok_f (fun e => by have := (nI_leI (by omega) (by omega)).mp e; omega) ?_
    refine l_md49 fu z gp gt (x_M_medianOf_41 fu z gp gt n) (hL x List.mem_cons_self) L _ A [] u fu hA (by omega) (by omega) h (fun u' hu' => ?_)
    have hlen := insr_len x A
    have hm : ∀ A : List Nat, (∀ y, y ∈ A → y < 2 ^ 32) → ∀ y, y ∈ insr x A → y < 2 ^ 32 := by
      intro A
      induction A with
      | nil =>
        intro _ y hy
        rcases List.mem_cons.mp hy with e | e
        · rw [e]; exact hL x List.mem_cons_self
        · exact absurd e List.not_mem_nil
      | cons w A ihA =>
        intro hw y hy
        unfold insr at hy
        by_cases q : x < w
        · rw [if_pos q] at hy
          rcases List.mem_cons.mp hy with e | e
          · rw [e]; exact hw w List.mem_cons_self
          · exact ihA (fun v hv => hw v (List.mem_cons_of_mem _ hv)) y e
        · rw [if_neg q] at hy
          rcases List.mem_cons.mp hy with e | e
          · rw [e]; exact hL x List.mem_cons_self
          · exact hw y e
    have := ih (insr x A) u' n (fun y hy => hL y (List.mem_cons_of_mem _ hy)) (hm A hA) (by omega) (by omega) (by omega) hu'
    rw [hlen, show A.length + 1 + L.length = A.length + (L.length + 1) from by omega] at this
    exact this
set_option maxHeartbeats 400000 in
theorem l_md4 (fu : Nat) (hfu : 20 ≤ fu) (z : Nat → Int32) {nb : Nat} {par hgt tim : Nat → Nat} {bit : Nat → Int32} {gp gh gt gbi : Nat → Int32} (hT : rTb nb par hgt tim bit gp gh gt gbi) (hnb : nb ≤ 202) : ∀ r k n X u, r + X.length = 11 → r + 1 < n → k < nb → (∀ y, y ∈ X → y < 2 ^ 32) → arr u 0 X → ok (x_M_medianOf_4 fu z gp gt n (nI X.length) (nI k) u) (fun y => y.1 = nI (med (X ++ tls par tim r k))) := by
  have E39 : ∀ X u, 0 < X.length → X.length ≤ 11 → (∀ y, y ∈ X → y < 2 ^ 32) → arr u 0 X → ok (xb_M_medianOf_39 fu z gp gt (nI X.length) u) (fun y => y.1 = nI (med X)) := by
    intro X u h0 hl hX h
    unfold xb_M_medianOf_39
    cases X with
    | nil => exact absurd h0 (Nat.lt_irrefl 0)
    | cons x X =>
      replace hl : X.length + 1 ≤ 11 := hl
      have := l_md41 fu hfu z gp gt X [x] u fu (fun y hy => hX y (List.mem_cons_of_mem _ hy)) (fun y hy => hX y (by rcases List.mem_cons.mp hy with e | e; (rw [e]; exact List.mem_cons_self); exact absurd e List.not_mem_nil)) (Nat.zero_lt_succ _) (by show 1 + X.length ≤ 11; omega) (by omega) h
      replace this : ok (x_M_medianOf_41 fu z gp gt fu (nI (1 + X.length)) (nI 1) u) (fun r => r.1 = nI (((isr X [x]).reverse).getD ((1 + X.length) / 2) 0)) := this
      rw [Nat.add_comm] at this
      exact this
  intro r
  induction r with
  | zero =>
    intro k n X u hl hn hk hX h
    obtain ⟨n, rfl⟩ : ∃ m, n = m + 1 := ⟨n - 1, by omega⟩
    show ok (xb_M_medianOf_4 fu z gp gt (x_M_medianOf_4 fu z gp gt n) (nI X.length) (nI k) u) _
    unfold xb_M_medianOf_4
    refine ok_f (nI_pos (by omega)) (ok_t ((nI_leI (a := 11) (by omega) (by omega)).mpr (by omega)) ?_)
    rw [show X ++ tls par tim 0 k = X from List.append_nil X]
    exact E39 X u (by omega) (by omega) hX h
  | succ r ih =>
    intro k n X u hl hn hk hX h
    obtain ⟨n, rfl⟩ : ∃ m, n = m + 1 := ⟨n - 1, by omega⟩
    obtain ⟨hC, hp0, hA⟩ := hT
    obtain ⟨k1, -, k3, k4, -, -, -⟩ := hA k hk
    show ok (xb_M_medianOf_4 fu z gp gt (x_M_medianOf_4 fu z gp gt n) (nI X.length) (nI k) u) _
    unfold xb_M_medianOf_4
    have hik : inb (nI k) 202 = true := inb_nI (by omega) (by decide)
    refine ok_f (nI_pos (by omega)) (ok_f (fun e => by have := (nI_leI (a := 11) (by omega) (by omega)).mp e; omega) ?_)
    rw [nI_clamp (n := k) (by omega), k3, nI_clamp (n := X.length) (by omega)]
    refine ok_bn (nI_1 _) (ok_gd hik (ok_bnd (ok_gd (inb_nI (by omega) (by decide)) (ok_bnd (ok_gd hik (ok_bnd ?_))))))
    have hX' : ∀ y, y ∈ X ++ [tim k] → y < 2 ^ 32 := fun y hy => by
      rcases List.mem_append.mp hy with e | e
      · exact hX y e
      · rw [List.mem_singleton.mp e]; exact k4
    have ha : arr (upd u X.length (nI (tim k))) 0 (X ++ [tim k]) := by
      rw [arr_ap, Nat.zero_add]
      refine ⟨arr_k X 0 (fun j a b => pk_un (by omega)) h, pk_us, trivial⟩
    have hlen : (X ++ [tim k]).length = X.length + 1 := by rw [List.length_append]; rfl
    by_cases q : k = 0
    · subst q
      rw [hp0, show X ++ tls par tim (r + 1) 0 = X ++ [tim 0] from rfl, ← hlen]
      obtain ⟨n, rfl⟩ : ∃ m, n = m + 1 := ⟨n - 1, by omega⟩
      show ok (xb_M_medianOf_4 fu z gp gt (x_M_medianOf_4 fu z gp gt n) (nI (X ++ [tim 0]).length) (-1) _) _
      unfold xb_M_medianOf_4
      exact ok_t (by decide) (E39 _ _ (by omega) (by omega) hX' ha)
    · have e : X ++ tls par tim (r + 1) k = (X ++ [tim k]) ++ tls par tim r (par k) := by
        rw [List.append_assoc]
        show X ++ (tim k :: if k = 0 then [] else tls par tim r (par k)) = _
        rw [if_neg q]
        rfl
      have kp := hC.2.2 k (by omega) hk
      rw [k1 (by omega), e, ← hlen]
      exact ih (par k) n (X ++ [tim k]) _ (by omega) (by omega) (by omega) hX' ha
set_option maxHeartbeats 400000 in
theorem v_M_medianOf (fu : Nat) (hfu : 20 ≤ fu) (z : Nat → Int32) {nb : Nat} {par hgt tim : Nat → Nat} {bit : Nat → Int32} {gp gh gt gbi : Nat → Int32} (hT : rTb nb par hgt tim bit gp gh gt gbi) (hnb : nb ≤ 202) {b : Nat} (hb : b < nb) (u : Nat → Int32) : ok (x_M_medianOf fu z gp gt (nI b) u) (fun y => y.1 = nI (med (tls par tim 11 b))) := by
  unfold x_M_medianOf
  exact l_md4 fu hfu z hT hnb 11 b fu [] u rfl (by omega) hb (fun y hy => absurd hy List.not_mem_nil) trivial
