-- the class's machine: pushes, and ops that move things
set_option maxHeartbeats 1000000 in
theorem h_or {p l : Nat} (hp : p < 2 ^ 20) (hl : l ≤ 255) : (nI p <<< ((8 : Int32) &&& 31)) ||| nI l = nI (256 * p + l) := by
  rw [pk_shlN ((8 : Int32) &&& 31) 8 (by decide) (by omega)]
  apply Int32.toBitVec_inj.mp
  apply BitVec.eq_of_toNat_eq
  have e1 : (nI (p * 2 ^ 8)).toBitVec.toNat = p * 2 ^ 8 := U_nI (by omega)
  have e2 : (nI l).toBitVec.toNat = l := U_nI (by omega)
  have e3 : (nI (256 * p + l)).toBitVec.toNat = 256 * p + l := U_nI (by omega)
  show ((nI (p * 2 ^ 8)).toBitVec ||| (nI l).toBitVec).toNat = _
  rw [BitVec.toNat_or, e1, e2, e3, show p * 2 ^ 8 = p <<< 8 from (Nat.shiftLeft_eq p 8).symm, ← Nat.shiftLeft_add_eq_or_of_lt (by omega), Nat.shiftLeft_eq]
  omega
set_option maxHeartbeats 1000000 in
theorem stH_p {D : Nat → Int32} {fr : Nat} {m : Nat → Int32} {S : Stk} {h : Int32} {x : List Int32} (hS : stH D fr m S) (hx : hO D fr h x) {n : Nat} (hn : n = S.length) : stH D fr (upd m n h) (x :: S) := by
  subst hn
  exact ⟨by rw [pk_us]; exact hx, stH_m hS (fun k hk => pk_un (by omega))⟩
set_option maxHeartbeats 1000000 in
theorem v_Ma_push (fu : Nat) (j2 j3 j4 j5 j6 j7 j8 j9 h : Int32) (m : Nat → Int32) {n : Nat} (hn : n < 204) : ok (x_Ma_push fu j2 j3 j4 j5 j6 j7 j8 j9 h (nI n) m) (fun x => x.1 = nI (n + 1) ∧ x.2 = upd m n h) := by
  unfold x_Ma_push
  rw [nI_clamp (n := n) (by omega)]
  exact ok_gd (inb_nI hn (by decide)) (ok_bnd (ok_bn (nI_1 n) (ok_some ⟨rfl, rfl⟩)))
/-- what pushNumber leaves -/
def cpP (D m : Nat → Int32) (n fr : Nat) (L : List Int32) (x : Int32 × Int32 × (Nat → Int32) × (Nat → Int32)) : Prop := x.1 = nI (n + 1) ∧ x.2.1 = nI (fr + L.length) ∧ wr D x.2.2.1 fr L ∧ x.2.2.2 = upd m n (nI (256 * fr + L.length))
set_option maxHeartbeats 1000000 in
theorem c_pn104 (fu : Nat) (j2 j3 j4 j5 j7 j8 j9 : Int32) {D D' m : Nat → Int32} {n fr : Nat} {L : List Int32} (hn : n < 204) (hfr : fr + 9 ≤ 14928) (hl : L.length ≤ 9) (h : wr D D' fr L) : ok (xb_Ma_pushNumber_104 fu j2 j3 j4 j5 j7 j8 j9 (nI L.length) (nI n) (nI fr) D' m) (cpP D m n fr L) := by
  unfold xb_Ma_pushNumber_104
  refine ok_bnd (ok_bn (h_or (by omega) (by omega)) (ok_bd2 (v_Ma_push fu j2 j3 j4 j5 (nI fr) j7 j8 j9 _ m hn) (fun a b w => ?_)))
  obtain ⟨w1, w2⟩ := w
  replace w1 : a = nI (n + 1) := w1
  replace w2 : b = upd m n (nI (256 * fr + L.length)) := w2
  subst w1 w2
  exact ok_bn (nI_add _ _) (ok_some ⟨rfl, rfl, h, rfl⟩)
set_option maxHeartbeats 1000000 in
theorem c_pn78 (fu : Nat) (j2 j3 j4 j5 j7 j8 j9 : Int32) {x1 : Int64} {v : Int} (hx : x1.toInt = v) {D D' m : Nat → Int32} {n fr : Nat} (hn : n < 204) (hfr : fr + 9 ≤ 14928) (h : wr D D' fr (nb0 v.natAbs)) : ok (xb_Ma_pushNumber_78 fu j2 j3 j4 j5 j7 j8 j9 x1 (nI (nb0 v.natAbs).length) (nI n) (nI fr) D' m) (cpP D m n fr (nb v)) := by
  unfold xb_Ma_pushNumber_78
  have h10 := nb0_len v.natAbs
  by_cases q : 0 ≤ v
  · refine ok_t ((lg_0 x1).2.mpr (by omega)) ?_
    have e : nb v = nb0 v.natAbs := by unfold nb; rw [if_neg (by omega)]
    rw [e]
    exact c_pn104 fu j2 j3 j4 j5 j7 j8 j9 hn hfr h10 h
  · have hp := nb0_pos (a := v.natAbs) (by omega)
    have e : nb v = nb2 (nb0 v.natAbs) := by unfold nb; rw [if_pos (by omega)]
    rw [e]
    obtain ⟨w1, w2⟩ := wr_l h hp h10
    have el := nb2_len hp
    rw [← el]
    generalize hL : nb0 v.natAbs = L at *
    refine ok_f (fun z => q (by have := (lg_0 x1).2.mp z; omega)) (ok_bn (nI_add _ _) (ok_bn (e' := nI (fr + L.length - 1)) ?_ ?_))
    · rw [el]
      exact nI_sb (b := 1) (by omega)
    have hi : inb (nI (fr + L.length - 1)) 14928 = true := inb_nI (by omega) (by decide)
    rw [nI_clamp (n := fr + L.length - 1) (by omega)]
    refine ok_gd hi (ok_bn (e' := L.getLastD 0) w1 (ok_bnd (ok_gd hi (ok_bnd ?_))))
    rw [pk_vb]
    exact c_pn104 fu j2 j3 j4 j5 j7 j8 j9 hn hfr (by omega) w2
set_option maxHeartbeats 1000000 in
theorem c_pn8e (fu : Nat) (j2 j3 j4 j5 j7 j8 j9 : Int32) (k8 : Int64 → Int64 → Int32 → Int32 → Int32 → (Nat → Int32) → (Nat → Int32) → Option (Int32 × Int32 × (Nat → Int32) × (Nat → Int32))) {x1 : Int64} {v : Int} (hx : x1.toInt = v) {D D' m : Nat → Int32} {n fr : Nat} (hn : n < 204) (hfr : fr + 9 ≤ 14928) {L : List Int32} (h : wr D D' fr L) (hl : L.length ≤ 8) (hL : nb1 L = nb0 v.natAbs) : ok (xb_Ma_pushNumber_8 fu j2 j3 j4 j5 j7 j8 j9 k8 x1 (lN 0) (nI L.length) (nI n) (nI fr) D' m) (cpP D m n fr (nb v)) := by
  unfold xb_Ma_pushNumber_8
  refine ok_t (by decide) ?_
  unfold nb1 at hL
  by_cases q : L.length = 0
  · refine ok_t ((nI_leI (b := 0) (by omega) (by omega)).mpr (by omega)) ?_
    have e : L = [] := List.eq_nil_of_length_eq_zero q
    rw [e] at hL h ⊢
    rw [if_neg (by decide)] at hL
    rw [hL] at h ⊢
    exact c_pn78 fu j2 j3 j4 j5 j7 j8 j9 hx hn hfr h
  · obtain ⟨w1, -⟩ := wr_l h (by omega) (by omega)
    have hi : inb (nI (fr + L.length - 1)) 14928 = true := inb_nI (by omega) (by decide)
    have hc : (nI (fr + L.length - 1)).toNatClampNeg = fr + L.length - 1 := nI_clamp (n := _) (by omega)
    refine ok_f (fun z => q (by have := (nI_leI (b := 0) (by omega) (by omega)).mp z; omega)) (ok_bn (nI_add _ _) (ok_bn (e' := nI (fr + L.length - 1)) (nI_sb (b := 1) (by omega)) (ok_gd hi (ok_bn (by rw [hc, w1]) ?_))))
    by_cases c : 0 ≤ L.getLastD 0
    · refine ok_t c ?_
      rw [if_neg (Int32.not_lt.mpr c)] at hL
      rw [hL] at h ⊢
      exact c_pn78 fu j2 j3 j4 j5 j7 j8 j9 hx hn hfr h
    · rw [if_pos (Int32.not_le.mp c)] at hL
      refine ok_f c (ok_bn (nI_add _ _) (ok_gd (inb_nI (by omega) (by decide)) (ok_bnd (ok_bn (nI_1 _) ?_))))
      rw [nI_clamp (n := fr + L.length) (by omega), show vp_nar .byte (0 : Int32) = (0 : Int32).toInt8.toInt32 from by decide]
      have w := wr_a h (by omega) 0
      rw [show (0 : Int32).toInt8.toInt32 = 0 from by decide] at w ⊢
      rw [hL] at w
      have e : L.length + 1 = (nb0 v.natAbs).length := by rw [← hL, List.length_append]; rfl
      rw [e]
      exact c_pn78 fu j2 j3 j4 j5 j7 j8 j9 hx hn hfr w
set_option maxHeartbeats 1000000 in
theorem lN_usr {a : Nat} (h : a < 2 ^ 64) : ((lN a).toUInt64 >>> ((8 : Int32).toInt64.toUInt64 &&& Int64.toUInt64 63)).toInt64 = lN (a / 2 ^ 8) := by
  apply Int64.toBitVec_inj.mp
  apply BitVec.eq_of_toNat_eq
  have e : (lN a).toUInt64.toNat = a := by
    show (BitVec.ofNat 64 a).toNat = a
    rw [BitVec.toNat_ofNat]
    exact Nat.mod_eq_of_lt h
  show ((lN a).toUInt64 >>> ((8 : Int32).toInt64.toUInt64 &&& Int64.toUInt64 63)).toNat = (BitVec.ofNat 64 (a / 2 ^ 8)).toNat
  rw [UInt64.toNat_shiftRight, e, BitVec.toNat_ofNat, Nat.mod_eq_of_lt (show a / 2 ^ 8 < 2 ^ 64 by omega), Nat.shiftRight_eq_div_pow]
  rfl
set_option maxHeartbeats 1000000 in
theorem c_pn8 (fu : Nat) (j2 j3 j4 j5 j7 j8 j9 : Int32) {x1 : Int64} {v : Int} (hx : x1.toInt = v) {D m : Nat → Int32} {n fr : Nat} (hn : n < 204) (hfr : fr + 9 ≤ 14928) : ∀ f k a L D', f < k → a < 256 ^ f → a < 2 ^ 62 → wr D D' fr L → L.length + f ≤ 8 → nb1 (L ++ dgN f a) = nb0 v.natAbs → ok (x_Ma_pushNumber_8 fu j2 j3 j4 j5 j7 j8 j9 k x1 (lN a) (nI L.length) (nI n) (nI fr) D' m) (cpP D m n fr (nb v)) := by
  intro f
  induction f with
  | zero =>
    intro k a L D' hk ha ha2 h hl hL
    obtain ⟨k, rfl⟩ : ∃ m, k = m + 1 := ⟨k - 1, by omega⟩
    have e : a = 0 := by omega
    subst e
    rw [dgN_0, List.append_nil] at hL
    exact c_pn8e fu j2 j3 j4 j5 j7 j8 j9 (x_Ma_pushNumber_8 fu j2 j3 j4 j5 j7 j8 j9 k) hx hn hfr h (by omega) hL
  | succ f ih =>
    intro k a L D' hk ha ha2 h hl hL
    obtain ⟨k, rfl⟩ : ∃ m, k = m + 1 := ⟨k - 1, by omega⟩
    by_cases q : a = 0
    · subst q
      rw [dgN_0, List.append_nil] at hL
      exact c_pn8e fu j2 j3 j4 j5 j7 j8 j9 (x_Ma_pushNumber_8 fu j2 j3 j4 j5 j7 j8 j9 k) hx hn hfr h (by omega) hL
    · rw [dgN_p f q] at hL
      show ok (xb_Ma_pushNumber_8 fu j2 j3 j4 j5 j7 j8 j9 (x_Ma_pushNumber_8 fu j2 j3 j4 j5 j7 j8 j9 k) x1 (lN a) (nI L.length) (nI n) (nI fr) D' m) _
      unfold xb_Ma_pushNumber_8
      refine ok_f (fun z => q ?_) (ok_bn (nI_add _ _) (ok_bnd (ok_gd (inb_nI (by omega) (by decide)) (ok_bnd (ok_bn (nI_1 _) (ok_bn (lN_usr (a := a) (by omega)) ?_))))))
      · have := (lg_eq (lN_I (by omega)) z64).mp z
        omega
      rw [nI_clamp (n := fr + L.length) (by omega), sby_v]
      have w := wr_a h (by omega) (lN a).toInt32
      have e : L.length + 1 = (L ++ [sby a]).length := by rw [List.length_append]; rfl
      rw [e]
      refine ih k (a / 2 ^ 8) (L ++ [sby a]) _ (by omega) ?_ (by omega) w (by rw [← e]; omega) ?_
      · rw [Nat.pow_succ] at ha
        exact Nat.div_lt_of_lt_mul (by rw [Nat.mul_comm]; exact ha)
      · rw [List.append_assoc]
        exact hL
set_option maxHeartbeats 1000000 in
theorem v_Ma_pushNumber (fu : Nat) (hfu : 10 ≤ fu) (j2 j3 j4 j5 j7 j8 j9 : Int32) {x1 : Int64} {v : Int} (hx : x1.toInt = v) (hv : v.natAbs < 2 ^ 40) (D m : Nat → Int32) {n fr : Nat} (hn : n < 204) (hfr : fr + 9 ≤ 14928) : ok (x_Ma_pushNumber fu j2 j3 j4 j5 j7 j8 j9 x1 (nI n) (nI fr) D m) (cpP D m n fr (nb v)) := by
  unfold x_Ma_pushNumber
  have w0 : wr D D fr [] := ⟨rfl, fun _ _ => rfl, fun h => h⟩
  refine ok_bn (e' := lN v.natAbs) ?_ ?_
  · refine Int64.toInt_inj.mp ?_
    rw [lN_I (Nat.lt_trans hv (by decide))]
    by_cases q : (0 : Int64) < x1
    · rw [if_pos q]
      have := Int64.lt_iff_toInt_lt.mp q
      rw [z64] at this
      omega
    · rw [if_neg q]
      have : ¬ (0 : Int64).toInt < x1.toInt := fun z => q (Int64.lt_iff_toInt_lt.mpr z)
      rw [z64] at this
      rw [Int64.toInt_neg, Int.bmod_eq_of_le (by omega) (by omega)]
      omega
  · exact c_pn8 fu j2 j3 j4 j5 j7 j8 j9 hx hn hfr 8 fu v.natAbs [] D (by omega) (Nat.lt_trans hv (by decide)) (Nat.lt_trans hv (by decide)) w0 (by decide) rfl
/-- the small numbers -/
def smD (D : Nat → Int32) : Prop := D 32 = -127 ∧ ∀ k, 1 ≤ k → k ≤ 16 → D (32 + k) = nI k
/-- the machine's state in the class -/
def kM (D : Nat → Int32) (fr : Nat) (m o : Nat → Int32) (S A : Stk) : Prop := stH D fr m S ∧ stH D fr o A ∧ ftB D ∧ smD D ∧ S.length + A.length ≤ 200 ∧ 2064 ≤ fr ∧ fr + 32 ≤ 14928
/-- what an op leaves that doesn't touch the other stack -/
def maQ (W : Option (Stk × Stk × Nat)) (A : Stk) (ops fr : Nat) (D0 : Nat → Int32) (b h f : Int32) (D' m' : Nat → Int32) : Prop := ftB D' ∧ (∀ j, j < fr → D' j = D0 j) ∧ ((W = none ∧ b = 0) ∨ ∃ S' fr', W = some (S', A, ops) ∧ b = 1 ∧ h = nI S'.length ∧ f = nI fr' ∧ (fr ≤ fr' ∧ fr' ≤ fr + 32) ∧ stH D' fr' m' S' ∧ S'.length + A.length ≤ 202)
abbrev T5m : Type := Int32 × Int32 × Int32 × (Nat → Int32) × (Nat → Int32)
def maQ5 (W : Option (Stk × Stk × Nat)) (A : Stk) (ops fr : Nat) (D0 : Nat → Int32) (x : T5m) : Prop := maQ W A ops fr D0 x.1 x.2.1 x.2.2.1 x.2.2.2.1 x.2.2.2.2
set_option maxHeartbeats 1000000 in
theorem maQ_0 {W : Option (Stk × Stk × Nat)} {A : Stk} {ops fr : Nat} {D0 : Nat → Int32} {h f : Int32} {m' : Nat → Int32} (hD : ftB D0) (hW : W = none) : maQ W A ops fr D0 0 h f D0 m' := ⟨hD, fun _ _ => rfl, Or.inl ⟨hW, rfl⟩⟩
set_option maxHeartbeats 1000000 in
theorem maQ_1 {W : Option (Stk × Stk × Nat)} {A S' : Stk} {ops fr : Nat} {D0 : Nat → Int32} {h : Int32} {m' : Nat → Int32} (hD : ftB D0) (hW : W = some (S', A, ops)) (hh : h = nI S'.length) (hS : stH D0 fr m' S') (hl : S'.length + A.length ≤ 202) : maQ W A ops fr D0 1 h (nI fr) D0 m' := ⟨hD, fun _ _ => rfl, Or.inr ⟨S', fr, hW, rfl, hh, rfl, by omega, hS, hl⟩⟩
set_option maxHeartbeats 1000000 in
/-- a number was pushed -/
theorem maQ_n {W : Option (Stk × Stk × Nat)} {A S : Stk} {ops fr : Nat} {D m : Nat → Int32} {v : Int} {x : Int32 × Int32 × (Nat → Int32) × (Nat → Int32)} (hD : ftB D) (hfr : 2064 ≤ fr) (hS : stH D fr m S) (hl : S.length + 1 + A.length ≤ 202) (hW : W = some (nb v :: S, A, ops)) (h : cpP D m S.length fr (nb v) x) : maQ W A ops fr D 1 x.1 x.2.1 x.2.2.1 x.2.2.2 := by
  obtain ⟨h1, h2, ⟨w1, w2, w3⟩, h4⟩ := h
  have hlen := nb_len v
  have hk : ∀ j, j < fr → x.2.2.1 j = D j := fun j hj => w2 j (Or.inl hj)
  refine ⟨w3 hD, hk, Or.inr ⟨nb v :: S, fr + (nb v).length, hW, rfl, h1, h2, by omega, ?_, hl⟩⟩
  rw [h4]
  refine stH_p (stH_k (by omega) (fun j _ h => hk j h) hS (fun _ _ => rfl)) ⟨fr, rfl, by omega, w1, Nat.le_refl _, Or.inr (by omega)⟩ rfl
def tpM (m : Nat → Int32) (n : Nat) : Int32 := if n = 0 then 0 else m (n - 1)
def scM (m : Nat → Int32) (n : Nat) : Int32 := if n ≤ 1 then 0 else m (n - 2)
set_option maxHeartbeats 1000000 in
theorem l_arr (fu : Nat) (j2 j3 j4 j5 j7 j8 j9 : Int32) {a1 f : Int32} {D m : Nat → Int32} {n nd : Nat} (hn : n ≤ 204) (hnd3 : nd ≤ 3) (hnd : x_Ma_neededBy fu a1 = some (nI nd)) (Q : T5m → Prop) (h0 : n < nd → ok (some ((0 : Int32), nI n, f, D, m)) Q) (h : nd ≤ n → ok (xb_Ma_arrange_59 fu j2 j3 j4 j5 j7 j8 j9 a1 (tpM m n) (scM m n) (nI n) f D m) Q) : ok (x_Ma_arrange fu j2 j3 j4 j5 j7 j8 j9 a1 (nI n) f D m) Q := by
  unfold x_Ma_arrange
  rw [hnd, bd1_q]
  by_cases c : nd ≤ n
  · refine ok_t ((nI_leI (by omega) (by omega)).mpr c) ?_
    have h := h c
    unfold tpM at h
    have A : ∀ y0 : Int32, ok (xb_Ma_arrange_59 fu j2 j3 j4 j5 j7 j8 j9 a1 y0 (scM m n) (nI n) f D m) Q → ok (xb_Ma_arrange_35 fu j2 j3 j4 j5 j7 j8 j9 a1 y0 (nI n) f D m) Q := fun y0 hy => by
      unfold xb_Ma_arrange_35
      unfold scM at hy
      by_cases d : n ≤ 1
      · rw [if_pos d] at hy
        exact ok_t ((nI_leI (b := 1) (by omega) (by omega)).mpr d) hy
      · rw [if_neg d] at hy
        refine ok_f (fun e => d ((nI_leI (b := 1) (by omega) (by omega)).mp e)) (ok_bn (e' := nI (n - 2)) (nI_sb (b := 2) (by omega)) (ok_gd (inb_nI (by omega) (by decide)) ?_))
        rw [nI_clamp (n := n - 2) (by omega)]
        exact ok_bnd hy
    by_cases d : n = 0
    · rw [if_pos d] at h
      exact ok_t ((nI_leI (b := 0) (by omega) (by omega)).mpr (by omega)) (A _ h)
    · rw [if_neg d] at h
      refine ok_f (fun e => d (by have := (nI_leI (b := 0) (by omega) (by omega)).mp e; omega)) (ok_bn (e' := nI (n - 1)) (nI_sb (b := 1) (by omega)) (ok_gd (inb_nI (by omega) (by decide)) ?_))
      rw [nI_clamp (n := n - 1) (by omega)]
      exact ok_bnd (A _ h)
  · exact ok_f (fun e => c ((nI_leI (by omega) (by omega)).mp e)) (h0 (by omega))
set_option maxHeartbeats 1000000 in
theorem c_ar109 (fu : Nat) (hfu : 1600 ≤ fu) (j2 j3 j4 j5 j7 j8 j9 : Int32) (sg : List Int32 → List Int32 → Bool) {D m o : Nat → Int32} {fr : Nat} {S A : Stk} (ops : Nat) (h : kM D fr m o S A) : ok (x_Ma_arrange fu j2 j3 j4 j5 j7 j8 j9 (nI 109) (nI S.length) (nI fr) D m) (maQ5 (opS sg hsF 109 S A ops) A ops fr D) := by
  have hD := h.2.2.1
  have hl := h.2.2.2.2.1
  have hfr := h.2.2.2.2.2
  refine l_arr fu j2 j3 j4 j5 j7 j8 j9 (nd := 2) (by omega) (by decide) rfl _ (fun q => ok_some ?_) (fun q => ?_)
  · match S, q with
    | [], q => exact maQ_0 hD rfl
    | [x], q => exact maQ_0 hD rfl
    | x :: y :: S, q => exact absurd (show S.length + 1 + 1 < 2 from q) (by omega)
  unfold xb_Ma_arrange_59
  match S, q, h, hl with
  | [], q, h, hl => exact absurd (show 2 ≤ 0 from q) (by decide)
  | [x], q, h, hl => exact absurd (show 2 ≤ 1 from q) (by decide)
  | x :: y :: S, q, h, hl =>
    replace hl : S.length + 1 + 1 + A.length ≤ 200 := hl
    refine ok_t rfl (ok_bn (e' := nI S.length) (nI_sb (a := S.length + 2) (b := 2) (by omega)) (ok_some ?_))
    exact maQ_1 hD rfl rfl h.1.2.2 (by omega)
set_option maxHeartbeats 1000000 in
theorem c_ar110 (fu : Nat) (hfu : 1600 ≤ fu) (j2 j3 j4 j5 j7 j8 j9 : Int32) (sg : List Int32 → List Int32 → Bool) {D m o : Nat → Int32} {fr : Nat} {S A : Stk} (ops : Nat) (h : kM D fr m o S A) : ok (x_Ma_arrange fu j2 j3 j4 j5 j7 j8 j9 (nI 110) (nI S.length) (nI fr) D m) (maQ5 (opS sg hsF 110 S A ops) A ops fr D) := by
  have hD := h.2.2.1
  have hl := h.2.2.2.2.1
  have hfr := h.2.2.2.2.2
  refine l_arr fu j2 j3 j4 j5 j7 j8 j9 (nd := 2) (by omega) (by decide) rfl _ (fun q => ok_some ?_) (fun q => ?_)
  · match S, q with
    | [], q => exact maQ_0 hD rfl
    | [x], q => exact maQ_0 hD rfl
    | x :: y :: S, q => exact absurd (show S.length + 1 + 1 < 2 from q) (by omega)
  unfold xb_Ma_arrange_59
  match S, q, h, hl with
  | [], q, h, hl => exact absurd (show 2 ≤ 0 from q) (by decide)
  | [x], q, h, hl => exact absurd (show 2 ≤ 1 from q) (by decide)
  | x :: y :: S, q, h, hl =>
    replace hl : S.length + 1 + 1 + A.length ≤ 200 := hl
    refine ok_f (by decide) (ok_t rfl (ok_bd2 (v_Ma_push fu j2 j3 j4 j5 (nI fr) j7 j8 j9 _ m (by show S.length + 1 + 1 < 204; omega)) (fun e2 f3 w1 => ok_bd2 (Q := fun x => x.1 = nI (S.length + 1 + 1 + 1 + 1) ∧ x.2 = upd f3 (S.length + 1 + 1 + 1) (tpM m (S.length + 1 + 1))) ?_ (fun e4 f5 w2 => ok_some ?_))))
    · obtain ⟨w11, w12⟩ := w1
      replace w11 : e2 = nI (S.length + 1 + 1 + 1) := w11
      subst w11
      exact v_Ma_push fu j2 j3 j4 j5 (nI fr) j7 j8 j9 _ f3 (by omega)
    · obtain ⟨w11, w12⟩ := w1
      obtain ⟨w21, w22⟩ := w2
      replace w12 : f3 = upd m (S.length + 1 + 1) (m S.length) := w12
      replace w22 : f5 = upd f3 (S.length + 1 + 1 + 1) (m (S.length + 1)) := w22
      subst w12 w22
      have s1 := stH_p (S := x :: y :: S) h.1 h.1.2.1 rfl
      have s2 := stH_p s1 h.1.1 rfl
      exact maQ_1 (S' := x :: y :: x :: y :: S) hD rfl w21 s2 (by show S.length + 1 + 1 + 1 + 1 + A.length ≤ 202; omega)
set_option maxHeartbeats 1000000 in
theorem c_ar111 (fu : Nat) (hfu : 1600 ≤ fu) (j2 j3 j4 j5 j7 j8 j9 : Int32) (sg : List Int32 → List Int32 → Bool) {D m o : Nat → Int32} {fr : Nat} {S A : Stk} (ops : Nat) (h : kM D fr m o S A) : ok (x_Ma_arrange fu j2 j3 j4 j5 j7 j8 j9 (nI 111) (nI S.length) (nI fr) D m) (maQ5 (opS sg hsF 111 S A ops) A ops fr D) := by
  have hD := h.2.2.1
  have hl := h.2.2.2.2.1
  have hfr := h.2.2.2.2.2
  refine l_arr fu j2 j3 j4 j5 j7 j8 j9 (nd := 1) (by omega) (by decide) rfl _ (fun q => ok_some ?_) (fun q => ?_)
  · match S, q with
    | [], q => exact maQ_0 hD rfl
    | x :: S, q => exact absurd (show S.length + 1 < 1 from q) (by omega)
  unfold xb_Ma_arrange_59
  exact ok_f (by decide) (ok_f (by decide) (ok_t rfl (ok_some (maQ_0 hD rfl))))
set_option maxHeartbeats 1000000 in
theorem c_ar112 (fu : Nat) (hfu : 1600 ≤ fu) (j2 j3 j4 j5 j7 j8 j9 : Int32) (sg : List Int32 → List Int32 → Bool) {D m o : Nat → Int32} {fr : Nat} {S A : Stk} (ops : Nat) (h : kM D fr m o S A) : ok (x_Ma_arrange fu j2 j3 j4 j5 j7 j8 j9 (nI 112) (nI S.length) (nI fr) D m) (maQ5 (opS sg hsF 112 S A ops) A ops fr D) := by
  have hD := h.2.2.1
  have hl := h.2.2.2.2.1
  have hfr := h.2.2.2.2.2
  refine l_arr fu j2 j3 j4 j5 j7 j8 j9 (nd := 1) (by omega) (by decide) rfl _ (fun q => ok_some ?_) (fun q => ?_)
  · match S, q with
    | [], q => exact maQ_0 hD rfl
    | x :: S, q => exact absurd (show S.length + 1 < 1 from q) (by omega)
  unfold xb_Ma_arrange_59
  exact ok_f (by decide) (ok_f (by decide) (ok_f (by decide) (ok_t rfl (ok_some (maQ_0 hD rfl)))))
set_option maxHeartbeats 1000000 in
theorem c_ar113 (fu : Nat) (hfu : 1600 ≤ fu) (j2 j3 j4 j5 j7 j8 j9 : Int32) (sg : List Int32 → List Int32 → Bool) {D m o : Nat → Int32} {fr : Nat} {S A : Stk} (ops : Nat) (h : kM D fr m o S A) : ok (x_Ma_arrange fu j2 j3 j4 j5 j7 j8 j9 (nI 113) (nI S.length) (nI fr) D m) (maQ5 (opS sg hsF 113 S A ops) A ops fr D) := by
  have hD := h.2.2.1
  have hl := h.2.2.2.2.1
  have hfr := h.2.2.2.2.2
  refine l_arr fu j2 j3 j4 j5 j7 j8 j9 (nd := 1) (by omega) (by decide) rfl _ (fun q => ok_some ?_) (fun q => ?_)
  · match S, q with
    | [], q => exact maQ_0 hD rfl
    | x :: S, q => exact absurd (show S.length + 1 < 1 from q) (by omega)
  unfold xb_Ma_arrange_59
  exact ok_f (by decide) (ok_f (by decide) (ok_f (by decide) (ok_f (by decide) (ok_t rfl (ok_some (maQ_0 hD rfl))))))
set_option maxHeartbeats 1000000 in
theorem c_ar114 (fu : Nat) (hfu : 1600 ≤ fu) (j2 j3 j4 j5 j7 j8 j9 : Int32) (sg : List Int32 → List Int32 → Bool) {D m o : Nat → Int32} {fr : Nat} {S A : Stk} (ops : Nat) (h : kM D fr m o S A) : ok (x_Ma_arrange fu j2 j3 j4 j5 j7 j8 j9 (nI 114) (nI S.length) (nI fr) D m) (maQ5 (opS sg hsF 114 S A ops) A ops fr D) := by
  have hD := h.2.2.1
  have hl := h.2.2.2.2.1
  have hfr := h.2.2.2.2.2
  refine l_arr fu j2 j3 j4 j5 j7 j8 j9 (nd := 1) (by omega) (by decide) rfl _ (fun q => ok_some ?_) (fun q => ?_)
  · match S, q with
    | [], q => exact maQ_0 hD rfl
    | x :: S, q => exact absurd (show S.length + 1 < 1 from q) (by omega)
  unfold xb_Ma_arrange_59
  exact ok_f (by decide) (ok_f (by decide) (ok_f (by decide) (ok_f (by decide) (ok_f (by decide) (ok_t rfl (ok_some (maQ_0 hD rfl)))))))
set_option maxHeartbeats 1000000 in
theorem c_ar126 (fu : Nat) (hfu : 1600 ≤ fu) (j2 j3 j4 j5 j7 j8 j9 : Int32) (sg : List Int32 → List Int32 → Bool) {D m o : Nat → Int32} {fr : Nat} {S A : Stk} (ops : Nat) (h : kM D fr m o S A) : ok (x_Ma_arrange fu j2 j3 j4 j5 j7 j8 j9 (nI 126) (nI S.length) (nI fr) D m) (maQ5 (opS sg hsF 126 S A ops) A ops fr D) := by
  have hD := h.2.2.1
  have hl := h.2.2.2.2.1
  have hfr := h.2.2.2.2.2
  refine l_arr fu j2 j3 j4 j5 j7 j8 j9 (nd := 1) (by omega) (by decide) rfl _ (fun q => ok_some ?_) (fun q => ?_)
  · match S, q with
    | [], q => exact maQ_0 hD rfl
    | x :: S, q => exact absurd (show S.length + 1 < 1 from q) (by omega)
  unfold xb_Ma_arrange_59
  exact ok_f (by decide) (ok_f (by decide) (ok_f (by decide) (ok_f (by decide) (ok_f (by decide) (ok_f (by decide) (ok_f (by decide) (ok_f (by decide) (ok_f (by decide) (ok_f (by decide) (ok_f (by decide) (ok_f (by decide) (ok_f (by decide) (ok_f (by decide) (ok_f (by decide) (ok_f (by decide) (ok_f (by decide) (ok_t rfl (ok_some (maQ_0 hD rfl)))))))))))))))))))
set_option maxHeartbeats 1000000 in
theorem c_ar127 (fu : Nat) (hfu : 1600 ≤ fu) (j2 j3 j4 j5 j7 j8 j9 : Int32) (sg : List Int32 → List Int32 → Bool) {D m o : Nat → Int32} {fr : Nat} {S A : Stk} (ops : Nat) (h : kM D fr m o S A) : ok (x_Ma_arrange fu j2 j3 j4 j5 j7 j8 j9 (nI 127) (nI S.length) (nI fr) D m) (maQ5 (opS sg hsF 127 S A ops) A ops fr D) := by
  have hD := h.2.2.1
  have hl := h.2.2.2.2.1
  have hfr := h.2.2.2.2.2
  refine l_arr fu j2 j3 j4 j5 j7 j8 j9 (nd := 1) (by omega) (by decide) rfl _ (fun q => ok_some ?_) (fun q => ?_)
  · match S, q with
    | [], q => exact maQ_0 hD rfl
    | x :: S, q => exact absurd (show S.length + 1 < 1 from q) (by omega)
  unfold xb_Ma_arrange_59
  exact ok_f (by decide) (ok_f (by decide) (ok_f (by decide) (ok_f (by decide) (ok_f (by decide) (ok_f (by decide) (ok_f (by decide) (ok_f (by decide) (ok_f (by decide) (ok_f (by decide) (ok_f (by decide) (ok_f (by decide) (ok_f (by decide) (ok_f (by decide) (ok_f (by decide) (ok_f (by decide) (ok_f (by decide) (ok_f (by decide) (ok_t rfl (ok_some (maQ_0 hD rfl))))))))))))))))))))
set_option maxHeartbeats 1000000 in
theorem c_ar128 (fu : Nat) (hfu : 1600 ≤ fu) (j2 j3 j4 j5 j7 j8 j9 : Int32) (sg : List Int32 → List Int32 → Bool) {D m o : Nat → Int32} {fr : Nat} {S A : Stk} (ops : Nat) (h : kM D fr m o S A) : ok (x_Ma_arrange fu j2 j3 j4 j5 j7 j8 j9 (nI 128) (nI S.length) (nI fr) D m) (maQ5 (opS sg hsF 128 S A ops) A ops fr D) := by
  have hD := h.2.2.1
  have hl := h.2.2.2.2.1
  have hfr := h.2.2.2.2.2
  refine l_arr fu j2 j3 j4 j5 j7 j8 j9 (nd := 1) (by omega) (by decide) rfl _ (fun q => ok_some ?_) (fun q => ?_)
  · match S, q with
    | [], q => exact maQ_0 hD rfl
    | x :: S, q => exact absurd (show S.length + 1 < 1 from q) (by omega)
  unfold xb_Ma_arrange_59
  exact ok_f (by decide) (ok_f (by decide) (ok_f (by decide) (ok_f (by decide) (ok_f (by decide) (ok_f (by decide) (ok_f (by decide) (ok_f (by decide) (ok_f (by decide) (ok_f (by decide) (ok_f (by decide) (ok_f (by decide) (ok_f (by decide) (ok_f (by decide) (ok_f (by decide) (ok_f (by decide) (ok_f (by decide) (ok_f (by decide) (ok_f (by decide) (ok_t rfl (ok_some (maQ_0 hD rfl)))))))))))))))))))))
set_option maxHeartbeats 1000000 in
theorem c_ar129 (fu : Nat) (hfu : 1600 ≤ fu) (j2 j3 j4 j5 j7 j8 j9 : Int32) (sg : List Int32 → List Int32 → Bool) {D m o : Nat → Int32} {fr : Nat} {S A : Stk} (ops : Nat) (h : kM D fr m o S A) : ok (x_Ma_arrange fu j2 j3 j4 j5 j7 j8 j9 (nI 129) (nI S.length) (nI fr) D m) (maQ5 (opS sg hsF 129 S A ops) A ops fr D) := by
  have hD := h.2.2.1
  have hl := h.2.2.2.2.1
  have hfr := h.2.2.2.2.2
  refine l_arr fu j2 j3 j4 j5 j7 j8 j9 (nd := 1) (by omega) (by decide) rfl _ (fun q => ok_some ?_) (fun q => ?_)
  · match S, q with
    | [], q => exact maQ_0 hD rfl
    | x :: S, q => exact absurd (show S.length + 1 < 1 from q) (by omega)
  unfold xb_Ma_arrange_59
  exact ok_f (by decide) (ok_f (by decide) (ok_f (by decide) (ok_f (by decide) (ok_f (by decide) (ok_f (by decide) (ok_f (by decide) (ok_f (by decide) (ok_f (by decide) (ok_f (by decide) (ok_f (by decide) (ok_f (by decide) (ok_f (by decide) (ok_f (by decide) (ok_f (by decide) (ok_f (by decide) (ok_f (by decide) (ok_f (by decide) (ok_f (by decide) (ok_f (by decide) (ok_t rfl (ok_some (maQ_0 hD rfl))))))))))))))))))))))
set_option maxHeartbeats 1000000 in
theorem c_ar115 (fu : Nat) (hfu : 1600 ≤ fu) (j2 j3 j4 j5 j7 j8 j9 : Int32) (sg : List Int32 → List Int32 → Bool) {D m o : Nat → Int32} {fr : Nat} {S A : Stk} (ops : Nat) (h : kM D fr m o S A) : ok (x_Ma_arrange fu j2 j3 j4 j5 j7 j8 j9 (nI 115) (nI S.length) (nI fr) D m) (maQ5 (opS sg hsF 115 S A ops) A ops fr D) := by
  have hD := h.2.2.1
  have hl := h.2.2.2.2.1
  have hfr := h.2.2.2.2.2
  refine l_arr fu j2 j3 j4 j5 j7 j8 j9 (nd := 1) (by omega) (by decide) rfl _ (fun q => ok_some ?_) (fun q => ?_)
  · match S, q with
    | [], q => exact maQ_0 hD rfl
    | x :: S, q => exact absurd (show S.length + 1 < 1 from q) (by omega)
  unfold xb_Ma_arrange_59
  match S, q, h, hl with
  | [], q, h, hl => exact absurd (show 1 ≤ 0 from q) (by decide)
  | x :: S, q, h, hl =>
    replace hl : S.length + 1 + A.length ≤ 200 := hl
    refine ok_f (by decide) (ok_f (by decide) (ok_f (by decide) (ok_f (by decide) (ok_f (by decide) (ok_f (by decide) (ok_t rfl (ok_bd1 (v_Ma_isTrue fu (by omega) (nI (S.length + 1)) j2 j3 j4 j5 (nI fr) j7 j8 j9 hD (by omega) h.1.1) (fun v hv => ok_tf hv (fun q => ok_some ?_) (fun q => ok_bd2 (v_Ma_push fu j2 j3 j4 j5 (nI fr) j7 j8 j9 _ m (by show S.length + 1 < 204; omega)) (fun e7 f8 w => ok_some ?_))))))))))
    · refine maQ_1 (S' := x :: S) hD ?_ rfl h.1 (by show S.length + 1 + A.length ≤ 202; omega)
      show some (if truB x = true then x :: x :: S else x :: S, A, ops) = _
      rw [if_neg q]
    · obtain ⟨w1, w2⟩ := w
      replace w2 : f8 = upd m (S.length + 1) (m S.length) := w2
      subst w2
      refine maQ_1 (S' := x :: x :: S) hD ?_ w1 (stH_p (S := x :: S) h.1 h.1.1 rfl) (by show S.length + 1 + 1 + A.length ≤ 202; omega)
      show some (if truB x = true then x :: x :: S else x :: S, A, ops) = _
      rw [if_pos q]
set_option maxHeartbeats 1000000 in
theorem c_ar116 (fu : Nat) (hfu : 1600 ≤ fu) (j2 j3 j4 j5 j7 j8 j9 : Int32) (sg : List Int32 → List Int32 → Bool) {D m o : Nat → Int32} {fr : Nat} {S A : Stk} (ops : Nat) (h : kM D fr m o S A) : ok (x_Ma_arrange fu j2 j3 j4 j5 j7 j8 j9 (nI 116) (nI S.length) (nI fr) D m) (maQ5 (opS sg hsF 116 S A ops) A ops fr D) := by
  have hD := h.2.2.1
  have hl := h.2.2.2.2.1
  have hfr := h.2.2.2.2.2
  refine l_arr fu j2 j3 j4 j5 j7 j8 j9 (nd := 0) (by omega) (by decide) rfl _ (fun q => ok_some ?_) (fun q => ?_)
  · exact absurd q (Nat.not_lt_zero _)
  unfold xb_Ma_arrange_59
  refine ok_f (by decide) (ok_f (by decide) (ok_f (by decide) (ok_f (by decide) (ok_f (by decide) (ok_f (by decide) (ok_f (by decide) (ok_t rfl (ok_bn (iL (n := S.length) (by omega)) (ok_bd4 (v_Ma_pushNumber fu (by omega) j2 j3 j4 j5 j7 j8 j9 (lN_I (n := S.length) (by omega)) (by omega) D m (n := S.length) (by omega) (by omega)) (fun a b c d w => ok_some ?_))))))))))
  exact maQ_n hD hfr.1 h.1 (by omega) rfl w
set_option maxHeartbeats 1000000 in
theorem c_ar117 (fu : Nat) (hfu : 1600 ≤ fu) (j2 j3 j4 j5 j7 j8 j9 : Int32) (sg : List Int32 → List Int32 → Bool) {D m o : Nat → Int32} {fr : Nat} {S A : Stk} (ops : Nat) (h : kM D fr m o S A) : ok (x_Ma_arrange fu j2 j3 j4 j5 j7 j8 j9 (nI 117) (nI S.length) (nI fr) D m) (maQ5 (opS sg hsF 117 S A ops) A ops fr D) := by
  have hD := h.2.2.1
  have hl := h.2.2.2.2.1
  have hfr := h.2.2.2.2.2
  refine l_arr fu j2 j3 j4 j5 j7 j8 j9 (nd := 1) (by omega) (by decide) rfl _ (fun q => ok_some ?_) (fun q => ?_)
  · match S, q with
    | [], q => exact maQ_0 hD rfl
    | x :: S, q => exact absurd (show S.length + 1 < 1 from q) (by omega)
  unfold xb_Ma_arrange_59
  match S, q, h, hl with
  | [], q, h, hl => exact absurd (show 1 ≤ 0 from q) (by decide)
  | x :: S, q, h, hl =>
    replace hl : S.length + 1 + A.length ≤ 200 := hl
    refine ok_f (by decide) (ok_f (by decide) (ok_f (by decide) (ok_f (by decide) (ok_f (by decide) (ok_f (by decide) (ok_f (by decide) (ok_f (by decide) (ok_t rfl (ok_bn (e' := nI S.length) (nI_sb (a := S.length + 1) (b := 1) (by omega)) (ok_some ?_))))))))))
    exact maQ_1 hD rfl rfl h.1.2 (by omega)
set_option maxHeartbeats 1000000 in
theorem c_ar118 (fu : Nat) (hfu : 1600 ≤ fu) (j2 j3 j4 j5 j7 j8 j9 : Int32) (sg : List Int32 → List Int32 → Bool) {D m o : Nat → Int32} {fr : Nat} {S A : Stk} (ops : Nat) (h : kM D fr m o S A) : ok (x_Ma_arrange fu j2 j3 j4 j5 j7 j8 j9 (nI 118) (nI S.length) (nI fr) D m) (maQ5 (opS sg hsF 118 S A ops) A ops fr D) := by
  have hD := h.2.2.1
  have hl := h.2.2.2.2.1
  have hfr := h.2.2.2.2.2
  refine l_arr fu j2 j3 j4 j5 j7 j8 j9 (nd := 1) (by omega) (by decide) rfl _ (fun q => ok_some ?_) (fun q => ?_)
  · match S, q with
    | [], q => exact maQ_0 hD rfl
    | x :: S, q => exact absurd (show S.length + 1 < 1 from q) (by omega)
  unfold xb_Ma_arrange_59
  match S, q, h, hl with
  | [], q, h, hl => exact absurd (show 1 ≤ 0 from q) (by decide)
  | x :: S, q, h, hl =>
    replace hl : S.length + 1 + A.length ≤ 200 := hl
    refine ok_f (by decide) (ok_f (by decide) (ok_f (by decide) (ok_f (by decide) (ok_f (by decide) (ok_f (by decide) (ok_f (by decide) (ok_f (by decide) (ok_f (by decide) (ok_t rfl (ok_bd2 (v_Ma_push fu j2 j3 j4 j5 (nI fr) j7 j8 j9 _ m (by show S.length + 1 < 204; omega)) (fun e7 f8 w => ok_some ?_)))))))))))
    obtain ⟨w1, w2⟩ := w
    replace w2 : f8 = upd m (S.length + 1) (m S.length) := w2
    subst w2
    exact maQ_1 (S' := x :: x :: S) hD rfl w1 (stH_p (S := x :: S) h.1 h.1.1 rfl) (by show S.length + 1 + 1 + A.length ≤ 202; omega)
set_option maxHeartbeats 1000000 in
theorem c_ar119 (fu : Nat) (hfu : 1600 ≤ fu) (j2 j3 j4 j5 j7 j8 j9 : Int32) (sg : List Int32 → List Int32 → Bool) {D m o : Nat → Int32} {fr : Nat} {S A : Stk} (ops : Nat) (h : kM D fr m o S A) : ok (x_Ma_arrange fu j2 j3 j4 j5 j7 j8 j9 (nI 119) (nI S.length) (nI fr) D m) (maQ5 (opS sg hsF 119 S A ops) A ops fr D) := by
  have hD := h.2.2.1
  have hl := h.2.2.2.2.1
  have hfr := h.2.2.2.2.2
  refine l_arr fu j2 j3 j4 j5 j7 j8 j9 (nd := 2) (by omega) (by decide) rfl _ (fun q => ok_some ?_) (fun q => ?_)
  · match S, q with
    | [], q => exact maQ_0 hD rfl
    | [x], q => exact maQ_0 hD rfl
    | x :: y :: S, q => exact absurd (show S.length + 1 + 1 < 2 from q) (by omega)
  unfold xb_Ma_arrange_59
  match S, q, h, hl with
  | [], q, h, hl => exact absurd (show 2 ≤ 0 from q) (by decide)
  | [x], q, h, hl => exact absurd (show 2 ≤ 1 from q) (by decide)
  | x :: y :: S, q, h, hl =>
    replace hl : S.length + 1 + 1 + A.length ≤ 200 := hl
    refine ok_f (by decide) (ok_f (by decide) (ok_f (by decide) (ok_f (by decide) (ok_f (by decide) (ok_f (by decide) (ok_f (by decide) (ok_f (by decide) (ok_f (by decide) (ok_f (by decide) (ok_t rfl (ok_bn (e' := nI (S.length + 1)) (nI_sb (a := S.length + 2) (b := 1) (by omega)) (ok_bn (e' := nI S.length) (nI_sb (a := S.length + 1) (b := 1) (by omega)) (ok_gd (inb_nI (by omega) (by decide)) ?_)))))))))))))
    rw [nI_clamp (n := S.length) (by omega)]
    exact ok_bnd (ok_some (maQ_1 (S' := x :: S) hD rfl rfl (stH_p h.1.2.2 h.1.1 rfl) (by show S.length + 1 + A.length ≤ 202; omega)))
set_option maxHeartbeats 1000000 in
theorem c_ar120 (fu : Nat) (hfu : 1600 ≤ fu) (j2 j3 j4 j5 j7 j8 j9 : Int32) (sg : List Int32 → List Int32 → Bool) {D m o : Nat → Int32} {fr : Nat} {S A : Stk} (ops : Nat) (h : kM D fr m o S A) : ok (x_Ma_arrange fu j2 j3 j4 j5 j7 j8 j9 (nI 120) (nI S.length) (nI fr) D m) (maQ5 (opS sg hsF 120 S A ops) A ops fr D) := by
  have hD := h.2.2.1
  have hl := h.2.2.2.2.1
  have hfr := h.2.2.2.2.2
  refine l_arr fu j2 j3 j4 j5 j7 j8 j9 (nd := 2) (by omega) (by decide) rfl _ (fun q => ok_some ?_) (fun q => ?_)
  · match S, q with
    | [], q => exact maQ_0 hD rfl
    | [x], q => exact maQ_0 hD rfl
    | x :: y :: S, q => exact absurd (show S.length + 1 + 1 < 2 from q) (by omega)
  unfold xb_Ma_arrange_59
  match S, q, h, hl with
  | [], q, h, hl => exact absurd (show 2 ≤ 0 from q) (by decide)
  | [x], q, h, hl => exact absurd (show 2 ≤ 1 from q) (by decide)
  | x :: y :: S, q, h, hl =>
    replace hl : S.length + 1 + 1 + A.length ≤ 200 := hl
    refine ok_f (by decide) (ok_f (by decide) (ok_f (by decide) (ok_f (by decide) (ok_f (by decide) (ok_f (by decide) (ok_f (by decide) (ok_f (by decide) (ok_f (by decide) (ok_f (by decide) (ok_f (by decide) (ok_t rfl (ok_bd2 (v_Ma_push fu j2 j3 j4 j5 (nI fr) j7 j8 j9 _ m (by show S.length + 1 + 1 < 204; omega)) (fun e7 f8 w => ok_some ?_)))))))))))))
    obtain ⟨w1, w2⟩ := w
    replace w2 : f8 = upd m (S.length + 1 + 1) (m S.length) := w2
    subst w2
    exact maQ_1 (S' := y :: x :: y :: S) hD rfl w1 (stH_p (S := x :: y :: S) h.1 h.1.2.1 rfl) (by show S.length + 1 + 1 + 1 + A.length ≤ 202; omega)
set_option maxHeartbeats 1000000 in
theorem c_ar123 (fu : Nat) (hfu : 1600 ≤ fu) (j2 j3 j4 j5 j7 j8 j9 : Int32) (sg : List Int32 → List Int32 → Bool) {D m o : Nat → Int32} {fr : Nat} {S A : Stk} (ops : Nat) (h : kM D fr m o S A) : ok (x_Ma_arrange fu j2 j3 j4 j5 j7 j8 j9 (nI 123) (nI S.length) (nI fr) D m) (maQ5 (opS sg hsF 123 S A ops) A ops fr D) := by
  have hD := h.2.2.1
  have hl := h.2.2.2.2.1
  have hfr := h.2.2.2.2.2
  refine l_arr fu j2 j3 j4 j5 j7 j8 j9 (nd := 3) (by omega) (by decide) rfl _ (fun q => ok_some ?_) (fun q => ?_)
  · match S, q with
    | [], q => exact maQ_0 hD rfl
    | [x], q => exact maQ_0 hD rfl
    | [x, y], q => exact maQ_0 hD rfl
    | x :: y :: z :: S, q => exact absurd (show S.length + 1 + 1 + 1 < 3 from q) (by omega)
  unfold xb_Ma_arrange_59
  match S, q, h, hl with
  | [], q, h, hl => exact absurd (show 3 ≤ 0 from q) (by decide)
  | [x], q, h, hl => exact absurd (show 3 ≤ 1 from q) (by decide)
  | [x, y], q, h, hl => exact absurd (show 3 ≤ 2 from q) (by decide)
  | x :: y :: w :: S, q, h, hl =>
    replace hl : S.length + 1 + 1 + 1 + A.length ≤ 200 := hl
    refine ok_f (by decide) (ok_f (by decide) (ok_f (by decide) (ok_f (by decide) (ok_f (by decide) (ok_f (by decide) (ok_f (by decide) (ok_f (by decide) (ok_f (by decide) (ok_f (by decide) (ok_f (by decide) (ok_f (by decide) (ok_f (by decide) (ok_f (by decide) (ok_t rfl (ok_bn (e' := nI (S.length + 2)) (nI_sb (a := S.length + 3) (b := 1) (by omega)) (ok_bn (e' := nI S.length) (nI_sb (a := S.length + 3) (b := 3) (by omega)) (ok_gd (inb_nI (by omega) (by decide)) ?_)))))))))))))))))
    rw [nI_clamp (n := S.length) (by omega), nI_clamp (n := S.length + 2) (by omega)]
    refine ok_bnd (ok_gd (inb_nI (by omega) (by decide)) (ok_bnd (ok_bn (e' := nI S.length) (nI_sb (a := S.length + 3) (b := 3) (by omega)) (ok_gd (inb_nI (by omega) (by decide)) ?_))))
    rw [nI_clamp (n := S.length) (by omega)]
    refine ok_bnd (ok_bn (e' := nI (S.length + 1)) (nI_sb (a := S.length + 3) (b := 2) (by omega)) (ok_gd (inb_nI (by omega) (by decide)) ?_))
    rw [nI_clamp (n := S.length + 1) (by omega)]
    refine ok_bnd (ok_some (maQ_1 (S' := w :: x :: y :: S) hD rfl rfl ?_ (by show S.length + 1 + 1 + 1 + A.length ≤ 202; omega)))
    refine ⟨?_, ?_, ?_, stH_m h.1.2.2.2 (fun k hk => by show upd (upd (upd m (S.length + 2) (m S.length)) S.length (m (S.length + 1))) (S.length + 1) (m (S.length + 2)) k = m k; rw [pk_un (by omega), pk_un (by omega), pk_un (by omega)])⟩
    · show hO D fr (upd (upd (upd m (S.length + 2) (m S.length)) S.length (m (S.length + 1))) (S.length + 1) (m (S.length + 2)) (S.length + 2)) w
      rw [pk_un (by omega), pk_un (by omega), pk_us]
      exact h.1.2.2.1
    · show hO D fr (upd (upd (upd m (S.length + 2) (m S.length)) S.length (m (S.length + 1))) (S.length + 1) (m (S.length + 2)) (S.length + 1)) x
      rw [pk_us]
      exact h.1.1
    · show hO D fr (upd (upd (upd m (S.length + 2) (m S.length)) S.length (m (S.length + 1))) (S.length + 1) (m (S.length + 2)) S.length) y
      rw [pk_un (by omega), pk_us]
      exact h.1.2.1
set_option maxHeartbeats 1000000 in
theorem c_ar124 (fu : Nat) (hfu : 1600 ≤ fu) (j2 j3 j4 j5 j7 j8 j9 : Int32) (sg : List Int32 → List Int32 → Bool) {D m o : Nat → Int32} {fr : Nat} {S A : Stk} (ops : Nat) (h : kM D fr m o S A) : ok (x_Ma_arrange fu j2 j3 j4 j5 j7 j8 j9 (nI 124) (nI S.length) (nI fr) D m) (maQ5 (opS sg hsF 124 S A ops) A ops fr D) := by
  have hD := h.2.2.1
  have hl := h.2.2.2.2.1
  have hfr := h.2.2.2.2.2
  refine l_arr fu j2 j3 j4 j5 j7 j8 j9 (nd := 2) (by omega) (by decide) rfl _ (fun q => ok_some ?_) (fun q => ?_)
  · match S, q with
    | [], q => exact maQ_0 hD rfl
    | [x], q => exact maQ_0 hD rfl
    | x :: y :: S, q => exact absurd (show S.length + 1 + 1 < 2 from q) (by omega)
  unfold xb_Ma_arrange_59
  match S, q, h, hl with
  | [], q, h, hl => exact absurd (show 2 ≤ 0 from q) (by decide)
  | [x], q, h, hl => exact absurd (show 2 ≤ 1 from q) (by decide)
  | x :: y :: S, q, h, hl =>
    replace hl : S.length + 1 + 1 + A.length ≤ 200 := hl
    refine ok_f (by decide) (ok_f (by decide) (ok_f (by decide) (ok_f (by decide) (ok_f (by decide) (ok_f (by decide) (ok_f (by decide) (ok_f (by decide) (ok_f (by decide) (ok_f (by decide) (ok_f (by decide) (ok_f (by decide) (ok_f (by decide) (ok_f (by decide) (ok_f (by decide) (ok_t rfl (?_))))))))))))))))
    unfold xb_Ma_arrange_318
    refine ok_bn (e' := nI (S.length + 1)) (nI_sb (a := S.length + 2) (b := 1) (by omega)) (ok_gd (inb_nI (by omega) (by decide)) ?_)
    rw [nI_clamp (n := S.length + 1) (by omega)]
    refine ok_bnd (ok_bn (e' := nI S.length) (nI_sb (a := S.length + 2) (b := 2) (by omega)) (ok_gd (inb_nI (by omega) (by decide)) ?_))
    rw [nI_clamp (n := S.length) (by omega)]
    refine ok_bnd ?_
    have s2 : stH D fr (upd (upd m (S.length + 1) (m S.length)) S.length (m (S.length + 1))) (y :: x :: S) := by
      refine ⟨?_, ?_, stH_m h.1.2.2 (fun k hk => by rw [pk_un (by omega), pk_un (by omega)])⟩
      · show hO D fr (upd (upd m (S.length + 1) (m S.length)) S.length (m (S.length + 1)) (S.length + 1)) y
        rw [pk_un (by omega), pk_us]
        exact h.1.2.1
      · rw [pk_us]
        exact h.1.1
    exact ok_f (by decide) (ok_some (maQ_1 (S' := y :: x :: S) hD rfl rfl s2 (by show S.length + 1 + 1 + A.length ≤ 202; omega)))
set_option maxHeartbeats 1000000 in
theorem c_ar125 (fu : Nat) (hfu : 1600 ≤ fu) (j2 j3 j4 j5 j7 j8 j9 : Int32) (sg : List Int32 → List Int32 → Bool) {D m o : Nat → Int32} {fr : Nat} {S A : Stk} (ops : Nat) (h : kM D fr m o S A) : ok (x_Ma_arrange fu j2 j3 j4 j5 j7 j8 j9 (nI 125) (nI S.length) (nI fr) D m) (maQ5 (opS sg hsF 125 S A ops) A ops fr D) := by
  have hD := h.2.2.1
  have hl := h.2.2.2.2.1
  have hfr := h.2.2.2.2.2
  refine l_arr fu j2 j3 j4 j5 j7 j8 j9 (nd := 2) (by omega) (by decide) rfl _ (fun q => ok_some ?_) (fun q => ?_)
  · match S, q with
    | [], q => exact maQ_0 hD rfl
    | [x], q => exact maQ_0 hD rfl
    | x :: y :: S, q => exact absurd (show S.length + 1 + 1 < 2 from q) (by omega)
  unfold xb_Ma_arrange_59
  match S, q, h, hl with
  | [], q, h, hl => exact absurd (show 2 ≤ 0 from q) (by decide)
  | [x], q, h, hl => exact absurd (show 2 ≤ 1 from q) (by decide)
  | x :: y :: S, q, h, hl =>
    replace hl : S.length + 1 + 1 + A.length ≤ 200 := hl
    refine ok_f (by decide) (ok_f (by decide) (ok_f (by decide) (ok_f (by decide) (ok_f (by decide) (ok_f (by decide) (ok_f (by decide) (ok_f (by decide) (ok_f (by decide) (ok_f (by decide) (ok_f (by decide) (ok_f (by decide) (ok_f (by decide) (ok_f (by decide) (ok_f (by decide) (ok_f (by decide) (ok_t rfl (?_)))))))))))))))))
    unfold xb_Ma_arrange_318
    refine ok_bn (e' := nI (S.length + 1)) (nI_sb (a := S.length + 2) (b := 1) (by omega)) (ok_gd (inb_nI (by omega) (by decide)) ?_)
    rw [nI_clamp (n := S.length + 1) (by omega)]
    refine ok_bnd (ok_bn (e' := nI S.length) (nI_sb (a := S.length + 2) (b := 2) (by omega)) (ok_gd (inb_nI (by omega) (by decide)) ?_))
    rw [nI_clamp (n := S.length) (by omega)]
    refine ok_bnd ?_
    have s2 : stH D fr (upd (upd m (S.length + 1) (m S.length)) S.length (m (S.length + 1))) (y :: x :: S) := by
      refine ⟨?_, ?_, stH_m h.1.2.2 (fun k hk => by rw [pk_un (by omega), pk_un (by omega)])⟩
      · show hO D fr (upd (upd m (S.length + 1) (m S.length)) S.length (m (S.length + 1)) (S.length + 1)) y
        rw [pk_un (by omega), pk_us]
        exact h.1.2.1
      · rw [pk_us]
        exact h.1.1
    refine ok_t rfl (ok_bd2 (v_Ma_push fu j2 j3 j4 j5 (nI fr) j7 j8 j9 _ _ (by show S.length + 1 + 1 < 204; omega)) (fun e7 f8 w => ok_some ?_))
    obtain ⟨w1, w2⟩ := w
    replace w2 : f8 = upd (upd (upd m (S.length + 1) (m S.length)) S.length (m (S.length + 1))) (S.length + 1 + 1) (m (S.length + 1)) := w2
    subst w2
    exact maQ_1 (S' := x :: y :: x :: S) hD rfl w1 (stH_p s2 h.1.1 rfl) (by show S.length + 1 + 1 + 1 + A.length ≤ 202; omega)
set_option maxHeartbeats 1000000 in
theorem c_ar130 (fu : Nat) (hfu : 1600 ≤ fu) (j2 j3 j4 j5 j7 j8 j9 : Int32) (sg : List Int32 → List Int32 → Bool) {D m o : Nat → Int32} {fr : Nat} {S A : Stk} (ops : Nat) (h : kM D fr m o S A) : ok (x_Ma_arrange fu j2 j3 j4 j5 j7 j8 j9 (nI 130) (nI S.length) (nI fr) D m) (maQ5 (opS sg hsF 130 S A ops) A ops fr D) := by
  have hD := h.2.2.1
  have hl := h.2.2.2.2.1
  have hfr := h.2.2.2.2.2
  refine l_arr fu j2 j3 j4 j5 j7 j8 j9 (nd := 1) (by omega) (by decide) rfl _ (fun q => ok_some ?_) (fun q => ?_)
  · match S, q with
    | [], q => exact maQ_0 hD rfl
    | x :: S, q => exact absurd (show S.length + 1 < 1 from q) (by omega)
  unfold xb_Ma_arrange_59
  match S, q, h, hl with
  | [], q, h, hl => exact absurd (show 1 ≤ 0 from q) (by decide)
  | x :: S, q, h, hl =>
    replace hl : S.length + 1 + A.length ≤ 200 := hl
    obtain ⟨p, e1, e2, e3, e4, e5⟩ := h.1.1
    refine ok_f (by decide) (ok_f (by decide) (ok_f (by decide) (ok_f (by decide) (ok_f (by decide) (ok_f (by decide) (ok_f (by decide) (ok_f (by decide) (ok_f (by decide) (ok_f (by decide) (ok_f (by decide) (ok_f (by decide) (ok_f (by decide) (ok_f (by decide) (ok_f (by decide) (ok_f (by decide) (ok_f (by decide) (ok_f (by decide) (ok_f (by decide) (ok_f (by decide) (ok_f (by decide) (ok_t rfl (ok_bd1 (Q := fun v => v = nI x.length) ?_ (fun v hv => ?_)))))))))))))))))))))))
    · show ok (x_Ma_lengthOf fu (m S.length)) _
      rw [e1]
      exact v_length fu (by omega) e2
    · subst hv
      refine ok_bn (iL (n := x.length) (by omega)) (ok_bd4 (v_Ma_pushNumber fu (by omega) j2 j3 j4 j5 j7 j8 j9 (lN_I (n := x.length) (by omega)) (by omega) D m (n := S.length + 1) (by omega) (by omega)) (fun a b c d w => ok_some ?_))
      exact maQ_n (S := x :: S) hD hfr.1 h.1 (by show S.length + 1 + 1 + A.length ≤ 202; omega) rfl w
