-- numbers as bytes
def ftB (u : Nat → Int32) : Prop := ∀ j, fits .byte (.int (u j)) = true
set_option maxHeartbeats 400000 in
theorem ftB_u {u : Nat → Int32} (h : ftB u) (k : Nat) (x : Int32) : ftB (upd u k (x.toInt8.toInt32)) := fun j => by
  by_cases q : j = k
  · rw [q, pk_us]; exact pk_fb x
  · rw [pk_un q]; exact h j
set_option maxHeartbeats 400000 in
theorem bl_ap (p : Nat → Int32) : ∀ n a, bl p a (n + 1) = bl p a n ++ [p (a + n)]
  | 0, a => rfl
  | n + 1, a => by
    rw [bl_s p a (n + 1), bl_ap p n (a + 1), bl_s p a n, show a + 1 + n = a + (n + 1) from by omega]
    rfl
set_option maxHeartbeats 400000 in
theorem bl_un {p : Nat → Int32} {k a n : Nat} {x : Int32} (h : k < a ∨ a + n ≤ k) : bl (upd p k x) a n = bl p a n := bl_c n a a fun i hi => pk_un (by omega)
set_option maxHeartbeats 400000 in
theorem bl_ua (p : Nat → Int32) (a n : Nat) (x : Int32) : bl (upd p (a + n) x) a (n + 1) = bl p a n ++ [x] := by
  rw [bl_ap, pk_us, bl_un (Or.inr (Nat.le_refl _))]
def sby (a : Nat) : Int32 := (lN a).toInt32.toInt8.toInt32
def dgN : Nat → Nat → List Int32
  | 0, _ => []
  | f + 1, a => if a = 0 then [] else sby a :: dgN f (a / 256)
set_option maxHeartbeats 400000 in
theorem dgN_len : ∀ f a, (dgN f a).length ≤ f
  | 0, _ => Nat.le_refl _
  | f + 1, a => by
    unfold dgN
    split
    · exact Nat.zero_le _
    · rw [List.length_cons]
      exact Nat.succ_le_succ (dgN_len f _)
set_option maxHeartbeats 400000 in
theorem dgN_0 : ∀ f, dgN f 0 = []
  | 0 => rfl
  | _ + 1 => rfl
set_option maxHeartbeats 400000 in
theorem dgN_p (f : Nat) {a : Nat} (h : a ≠ 0) : dgN (f + 1) a = sby a :: dgN f (a / 256) := by
  show (if a = 0 then [] else sby a :: dgN f (a / 256)) = _
  rw [if_neg h]
def orS (x : Int32) : Int32 := (x ||| (-128 : Int32)).toInt8.toInt32
def nb1 (L : List Int32) : List Int32 := if L.getLastD 0 < 0 then L ++ [0] else L
def nb2 (L : List Int32) : List Int32 := L.dropLast ++ [orS (L.getLastD 0)]
def nb0 (a : Nat) : List Int32 := nb1 (dgN 8 a)
/-- a number as bytes -/
def nb (v : Int) : List Int32 := if v < 0 then nb2 (nb0 v.natAbs) else nb0 v.natAbs
set_option maxHeartbeats 400000 in
theorem nb0_len (a : Nat) : (nb0 a).length ≤ 9 := by
  unfold nb0 nb1
  have := dgN_len 8 a
  split
  · rw [List.length_append, List.length_singleton]; omega
  · omega
set_option maxHeartbeats 400000 in
theorem nb0_pos {a : Nat} (h : a ≠ 0) : 0 < (nb0 a).length := by
  unfold nb0 nb1
  rw [dgN_p 7 h]
  split
  · rw [List.length_append, List.length_singleton]; omega
  · rw [List.length_cons]; omega
set_option maxHeartbeats 400000 in
theorem nb2_len {L : List Int32} (h : 0 < L.length) : (nb2 L).length = L.length := by
  unfold nb2
  rw [List.length_append, List.length_dropLast, List.length_singleton]
  omega
set_option maxHeartbeats 400000 in
theorem nb_len (v : Int) : (nb v).length ≤ 9 := by
  unfold nb
  have := nb0_len v.natAbs
  split
  · by_cases q : v.natAbs = 0
    · omega
    · rw [nb2_len (nb0_pos q)]; omega
  · exact this
/-- what is written at a, and what is left as it was -/
def wr (u u' : Nat → Int32) (a : Nat) (L : List Int32) : Prop := bl u' a L.length = L ∧ (∀ j, j < a ∨ a + 9 ≤ j → u' j = u j) ∧ (ftB u → ftB u')
set_option maxHeartbeats 400000 in
theorem wr_a {u u' : Nat → Int32} {a : Nat} {L : List Int32} (h : wr u u' a L) (hl : L.length < 9) (x : Int32) : wr u (upd u' (a + L.length) x.toInt8.toInt32) a (L ++ [x.toInt8.toInt32]) := by
  obtain ⟨h1, h2, h3⟩ := h
  refine ⟨?_, fun j hj => ?_, fun q => ftB_u (h3 q) _ x⟩
  · rw [List.length_append, List.length_singleton, bl_ua, h1]
  · rw [pk_un (by omega)]
    exact h2 j hj
set_option maxHeartbeats 400000 in
theorem bl_last (p : Nat → Int32) (a n : Nat) : (bl p a (n + 1)).getLastD 0 = p (a + n) := by
  rw [bl_ap, List.getLastD_concat]
set_option maxHeartbeats 400000 in
theorem bl_dl (p : Nat → Int32) (a n : Nat) : (bl p a (n + 1)).dropLast = bl p a n := by
  rw [bl_ap, List.dropLast_concat]
set_option maxHeartbeats 400000 in
theorem wr_l {u u' : Nat → Int32} {a : Nat} {L : List Int32} (h : wr u u' a L) (hl : 0 < L.length) (h9 : L.length ≤ 9) : u' (a + L.length - 1) = L.getLastD 0 ∧ wr u (upd u' (a + L.length - 1) (orS (L.getLastD 0))) a (nb2 L) := by
  obtain ⟨h1, h2, h3⟩ := h
  obtain ⟨n, hn⟩ : ∃ n, L.length = n + 1 := ⟨L.length - 1, by omega⟩
  rw [hn] at h1
  have e1 : L.getLastD 0 = u' (a + n) := by rw [← h1, bl_last]
  have e2 : L.dropLast = bl u' a n := by rw [← h1, bl_dl]
  rw [hn, show a + (n + 1) - 1 = a + n from by omega]
  refine ⟨e1.symm, ?_, fun j hj => ?_, fun q => ?_⟩
  · rw [nb2_len hl, hn, bl_ua]
    unfold nb2
    rw [e2]
  · rw [pk_un (by omega)]
    exact h2 j hj
  · exact ftB_u (h3 q) _ _
set_option maxHeartbeats 400000 in
theorem sby_v (a : Nat) : vp_nar .byte ((lN a).toInt32.toInt8.toInt32) = (lN a).toInt32.toInt8.toInt32 := pk_vb _
/-- what pushNumber leaves -/
def pnP (u0 u1 u2 : Nat → Int32) (d : Nat) (L : List Int32) (x : (Nat → Int32) × (Nat → Int32) × (Nat → Int32)) : Prop := x.1 = upd u0 9 (nI (d + 1)) ∧ wr u1 x.2.1 (256 * d) L ∧ x.2.2 = upd u2 d (nI L.length)
set_option maxHeartbeats 400000 in
theorem l_pn114 (fu : Nat) {u0 u1 u1' u2 : Nat → Int32} {d : Nat} {L : List Int32} (hd : d < 408) (h9 : u0 9 = nI d) (h : wr u1 u1' (256 * d) L) : ok (xb_M_pushNumber_114 fu (nI L.length) u0 u1' u2) (pnP u0 u1 u2 d L) := by
  unfold xb_M_pushNumber_114
  rw [h9, nI_clamp (n := d) (by omega)]
  exact ok_gd (inb_nI hd (by decide)) (ok_bnd (ok_bn (nI_1 d) (ok_bnd (ok_some ⟨rfl, h, rfl⟩))))
set_option maxHeartbeats 400000 in
theorem l_pn90 (fu : Nat) {x1 : Int64} {v : Int} (hx : x1.toInt = v) {u0 u1 u1' u2 : Nat → Int32} {d : Nat} (hd : d < 407) (h9 : u0 9 = nI d) (h : wr u1 u1' (256 * d) (nb0 v.natAbs)) : ok (xb_M_pushNumber_90 fu x1 (nI (nb0 v.natAbs).length) (nI (256 * d)) u0 u1' u2) (pnP u0 u1 u2 d (nb v)) := by
  unfold xb_M_pushNumber_90
  by_cases q : 0 ≤ v
  · refine ok_t ((lg_0 x1).2.mpr (by omega)) ?_
    have e : nb v = nb0 v.natAbs := by unfold nb; rw [if_neg (by omega)]
    rw [e]
    exact l_pn114 fu (by omega) h9 h
  · have hp := nb0_pos (a := v.natAbs) (by omega)
    have h10 := nb0_len v.natAbs
    have e : nb v = nb2 (nb0 v.natAbs) := by unfold nb; rw [if_pos (by omega)]
    rw [e]
    obtain ⟨w1, w2⟩ := wr_l h hp h10
    have el := nb2_len hp
    rw [← el]
    generalize hL : nb0 v.natAbs = L at *
    refine ok_f (fun z => q (by have := (lg_0 x1).2.mp z; omega)) (ok_bn (nI_add _ _) (ok_bn (e' := nI (256 * d + L.length - 1)) ?_ ?_))
    · rw [el, show 256 * d + L.length = (256 * d + L.length - 1) + 1 from by omega, ← nI_add (256 * d + L.length - 1) 1]
      exact Int32.add_sub_cancel _ _
    have hi : inb (nI (256 * d + L.length - 1)) 104448 = true := inb_nI (by omega) (by decide)
    have hc : (nI (256 * d + L.length - 1)).toNatClampNeg = 256 * d + L.length - 1 := nI_clamp (n := _) (by omega)
    rw [hc]
    refine ok_gd hi (ok_bn (e' := L.getLastD 0) w1 (ok_bnd (ok_gd hi (ok_bnd ?_))))
    rw [pk_vb]
    exact l_pn114 fu (by omega) h9 w2
set_option maxHeartbeats 400000 in
theorem l_pn26e (fu : Nat) (k26 : Int64 → Int64 → Int32 → Int32 → (Nat → Int32) → (Nat → Int32) → (Nat → Int32) → Option ((Nat → Int32) × (Nat → Int32) × (Nat → Int32))) {x1 : Int64} {v : Int} (hx : x1.toInt = v) {u0 u1 u1' u2 : Nat → Int32} {d : Nat} (hd : d < 407) (h9 : u0 9 = nI d) {L : List Int32} (h : wr u1 u1' (256 * d) L) (hl : L.length ≤ 8) (hL : nb1 L = nb0 v.natAbs) : ok (xb_M_pushNumber_26 fu k26 x1 (lN 0) (nI L.length) (nI (256 * d)) u0 u1' u2) (pnP u0 u1 u2 d (nb v)) := by
  unfold xb_M_pushNumber_26
  refine ok_t (by decide) ?_
  unfold nb1 at hL
  by_cases q : L.length = 0
  · refine ok_t ((nI_leI (b := 0) (by omega) (by omega)).mpr (by omega)) ?_
    have e : L = [] := List.eq_nil_of_length_eq_zero q
    rw [e] at hL h ⊢
    rw [if_neg (by decide)] at hL
    rw [hL] at h ⊢
    exact l_pn90 fu hx hd h9 h
  · obtain ⟨w1, -⟩ := wr_l h (by omega) (by omega)
    have hi : inb (nI (256 * d + L.length - 1)) 104448 = true := inb_nI (by omega) (by decide)
    have hc : (nI (256 * d + L.length - 1)).toNatClampNeg = 256 * d + L.length - 1 := nI_clamp (n := _) (by omega)
    refine ok_f (fun z => q (by have := (nI_leI (b := 0) (by omega) (by omega)).mp z; omega)) (ok_bn (nI_add _ _) (ok_bn (e' := nI (256 * d + L.length - 1)) ?_ (ok_gd hi (ok_bn (by rw [hc, w1]) ?_))))
    · rw [show 256 * d + L.length = (256 * d + L.length - 1) + 1 from by omega, ← nI_add (256 * d + L.length - 1) 1]
      exact Int32.add_sub_cancel _ _
    by_cases c : 0 ≤ L.getLastD 0
    · refine ok_t c ?_
      rw [if_neg (Int32.not_lt.mpr c)] at hL
      rw [hL] at h ⊢
      exact l_pn90 fu hx hd h9 h
    · rw [if_pos (Int32.not_le.mp c)] at hL
      refine ok_f c (ok_bn (nI_1 _) (ok_bn (nI_add _ _) (ok_gd (inb_nI (by omega) (by decide)) (ok_bnd ?_))))
      rw [nI_clamp (n := 256 * d + L.length) (by omega), show vp_nar .byte (0 : Int32) = (0 : Int32).toInt8.toInt32 from by decide]
      have w := wr_a h (by omega) 0
      rw [show (0 : Int32).toInt8.toInt32 = 0 from by decide] at w ⊢
      rw [hL] at w
      have e : L.length + 1 = (nb0 v.natAbs).length := by rw [← hL, List.length_append]; rfl
      rw [e]
      exact l_pn90 fu hx hd h9 w
set_option maxHeartbeats 400000 in
theorem l_pn26 (fu : Nat) {x1 : Int64} {v : Int} (hx : x1.toInt = v) {u0 u1 u2 : Nat → Int32} {d : Nat} (hd : d < 407) (h9 : u0 9 = nI d) : ∀ f n a L u1', f < n → a < 256 ^ f → a < 2 ^ 62 → wr u1 u1' (256 * d) L → L.length + f ≤ 8 → nb1 (L ++ dgN f a) = nb0 v.natAbs → ok (x_M_pushNumber_26 fu n x1 (lN a) (nI L.length) (nI (256 * d)) u0 u1' u2) (pnP u0 u1 u2 d (nb v)) := by
  intro f
  induction f with
  | zero =>
    intro n a L u1' hn ha ha2 h hl hL
    obtain ⟨n, rfl⟩ : ∃ m, n = m + 1 := ⟨n - 1, by omega⟩
    have e : a = 0 := by omega
    subst e
    rw [dgN_0, List.append_nil] at hL
    exact l_pn26e fu (x_M_pushNumber_26 fu n) hx hd h9 h (by omega) hL
  | succ f ih =>
    intro n a L u1' hn ha ha2 h hl hL
    obtain ⟨n, rfl⟩ : ∃ m, n = m + 1 := ⟨n - 1, by omega⟩
    by_cases q : a = 0
    · subst q
      rw [dgN_0, List.append_nil] at hL
      exact l_pn26e fu (x_M_pushNumber_26 fu n) hx hd h9 h (by omega) hL
    · rw [dgN_p f q] at hL
      show ok (xb_M_pushNumber_26 fu (x_M_pushNumber_26 fu n) x1 (lN a) (nI L.length) (nI (256 * d)) u0 u1' u2) _
      unfold xb_M_pushNumber_26
      refine ok_f (fun z => q ?_) (ok_bn (nI_1 _) (ok_bn (nI_add _ _) (ok_bnd (ok_gd (inb_nI (by omega) (by decide)) (ok_bnd (ok_bn (lN_sr (n := a) (by omega) _ 8 (by decide)) ?_))))))
      · have := (lg_le _ _).mp z
        rw [lN_I (by omega), show (0 : Int64).toInt = 0 from rfl] at this
        omega
      rw [nI_clamp (n := 256 * d + L.length) (by omega), sby_v]
      have w := wr_a h (by omega) (lN a).toInt32
      have e : L.length + 1 = (L ++ [sby a]).length := by rw [List.length_append]; rfl
      rw [e]
      refine ih n (a / 2 ^ 8) (L ++ [sby a]) _ (by omega) ?_ (by omega) w (by rw [← e]; omega) ?_
      · rw [Nat.pow_succ] at ha
        exact Nat.div_lt_of_lt_mul (by rw [Nat.mul_comm]; exact ha)
      · rw [List.append_assoc]
        exact hL
set_option maxHeartbeats 400000 in
theorem v_M_pushNumber (fu : Nat) (hfu : 10 ≤ fu) {x1 : Int64} {v : Int} (hx : x1.toInt = v) (hv : v.natAbs < 2 ^ 40) {u0 u1 u2 : Nat → Int32} {d : Nat} (hd : d < 407) (h9 : u0 9 = nI d) : ok (x_M_pushNumber fu x1 u0 u1 u2) (pnP u0 u1 u2 d (nb v)) := by
  unfold x_M_pushNumber xb_M_pushNumber_12
  rw [h9, show (256 : Int32) = nI 256 from rfl]
  have w0 : wr u1 u1 (256 * d) [] := ⟨rfl, fun _ _ => rfl, fun h => h⟩
  have A : ∀ y0 : Int64, y0 = lN v.natAbs → ok (bnd (nI 256 * nI d) fun v1 => x_M_pushNumber_26 fu fu x1 y0 (0 : Int32) v1 u0 u1 u2) (pnP u0 u1 u2 d (nb v)) := fun y0 hy => by
    subst hy
    refine ok_bn (pk_mul 256 d) ?_
    exact l_pn26 fu hx hd h9 8 fu v.natAbs [] u1 (by omega) (Nat.lt_trans hv (by decide)) (Nat.lt_trans hv (by decide)) w0 (by decide) rfl
  refine ok_ite (fun q => A _ ?_) (fun q => A _ ?_)
  · have q := (lg_0 x1).2.mp q
    refine Int64.toInt_inj.mp ?_
    rw [lN_I (Nat.lt_trans hv (by decide))]
    omega
  · have q : ¬ 0 ≤ x1.toInt := fun z => q ((lg_0 x1).2.mpr z)
    refine Int64.toInt_inj.mp ?_
    rw [lN_I (Nat.lt_trans hv (by decide)), Int64.toInt_neg]
    rw [Int.bmod_eq_of_le (by omega) (by omega)]
    omega
