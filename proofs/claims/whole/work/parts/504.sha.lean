-- Sha256.finish
theorem nar0 : vp_nar .byte (0 : Int32) = 0 := by decide
theorem nar80 : vp_nar .byte (-128 : Int32) = -128 := by decide
def s_zr (c : Nat → Int32) (a b : Nat) : Nat → Int32 := fun j => if a ≤ j ∧ j < b then 0 else c j
theorem sh_fill (fu : Nat) (i0 : Int32) (jl : Int64) (b : Nat) (hb : b ≤ 64) : ∀ (d n a : Nat) (c : Nat → Int32), a + d = b → d < n →
    x_Sh_fillWithZeros_5 fu i0 jl n (nI b) (nI a) c = some (s_zr c a b)
  | 0, n, a, c, h, hn => by
    obtain ⟨n', rfl⟩ : ∃ n', n = n' + 1 := ⟨n - 1, by omega⟩
    show xb_Sh_fillWithZeros_5 fu i0 jl (x_Sh_fillWithZeros_5 fu i0 jl n') (nI b) (nI a) c = _
    unfold xb_Sh_fillWithZeros_5
    rw [if_pos (nI_le (by omega) (by omega))]
    congr 1
    funext j
    unfold s_zr
    rw [if_neg (by omega)]
  | d + 1, n, a, c, h, hn => by
    obtain ⟨n', rfl⟩ : ∃ n', n = n' + 1 := ⟨n - 1, by omega⟩
    show xb_Sh_fillWithZeros_5 fu i0 jl (x_Sh_fillWithZeros_5 fu i0 jl n') (nI b) (nI a) c = _
    unfold xb_Sh_fillWithZeros_5
    rw [if_neg (nI_ge (a := a) (b := b) (by omega) (by omega))]
    simp only [bnd, nI_1, nar0]
    rw [gd_t (inb_nI (by omega) (by omega)), nI_clamp (by omega), sh_fill fu i0 jl b hb d n' (a + 1) _ (by omega) (by omega)]
    congr 1
    funext j
    unfold s_zr
    by_cases e1 : j = a
    · subst e1
      rw [if_neg (by omega), if_pos (by omega), pk_us]
    · rw [pk_un e1]
      by_cases e2 : a ≤ j ∧ j < b
      · rw [if_pos (by omega), if_pos e2]
      · rw [if_neg (by omega), if_neg e2]
/-- the byte that the length puts at place k from the end -/
def s_lb (jl : Int64) (k : Nat) : Int32 := (((jl * 8).toUInt64 >>> (((8 : Int32) * nI k).toInt64.toUInt64 &&& Int64.toUInt64 63)).toInt64).toInt32.toInt8.toInt32
def s_ln (jl : Int64) (c : Nat → Int32) : Nat → Nat → Int32
  | 0 => c
  | i + 1 => upd (s_ln jl c i) (63 - i) (s_lb jl i)
theorem sh_len1 (fu : Nat) (jl : Int64) (n1 n : Nat) (x2 u0 : Int32) (u1 u2 c u4 : Nat → Int32) (t : Nat) (ht : t < 8) :
    x_Sh_finish_48 fu jl n1 (n + 1) x2 (nI t) u0 u1 u2 c u4 = x_Sh_finish_48 fu jl n1 n x2 (nI (t + 1)) u0 u1 u2 (upd c (63 - t) (s_lb jl t)) u4 := by
  show xb_Sh_finish_48 fu jl n1 (x_Sh_finish_48 fu jl n1 n) x2 (nI t) u0 u1 u2 c u4 = _
  unfold xb_Sh_finish_48
  rw [if_neg (show ¬ (8 : Int32) ≤ nI t from nI_ge (b := 8) (by omega) (by decide))]
  have e1 : (63 : Int32) - nI t = nI (63 - t) := pk_sub (a := 63) (by omega)
  simp only [bnd, nI_1, e1, pk_vb]
  rw [gd_t (inb_nI (by omega) (by omega)), nI_clamp (by omega)]
  rfl
theorem sh_len (fu : Nat) (jl : Int64) (n1 : Nat) (x2 u0 : Int32) (u1 u2 c u4 : Nat → Int32) (n : Nat) : ∀ i, i ≤ 8 →
    x_Sh_finish_48 fu jl n1 (n + 8) x2 0 u0 u1 u2 c u4 = x_Sh_finish_48 fu jl n1 (n + (8 - i)) x2 (nI i) u0 u1 u2 (s_ln jl c i) u4
  | 0, _ => rfl
  | i + 1, h => by
    rw [sh_len fu jl n1 x2 u0 u1 u2 c u4 n i (by omega)]
    have e1 : n + (8 - i) = (n + (8 - (i + 1))) + 1 := by omega
    rw [e1, sh_len1 fu jl n1 _ x2 u0 u1 u2 _ u4 i (by omega)]
    rfl
/-- a byte of the answer -/
def s_ob (st : Nat → Int32) (i : Nat) : Int32 := (((st (i / 4)).toUInt32 >>> (((24 : Int32) - ((8 : Int32) * nI (i % 4))).toUInt32 &&& Int32.toUInt32 31)).toInt32).toInt8.toInt32
def s_out (st : Nat → Int32) (at_ : Nat) (c : Nat → Int32) : Nat → Nat → Int32
  | 0 => c
  | i + 1 => upd (s_out st at_ c i) (at_ + i) (s_ob st i)
theorem sh_out1 (fu : Nat) (jl : Int64) (n1 : Nat) (hn1 : n1 < 2 ^ 31) (n at_ : Nat) (ha : at_ + 32 ≤ n1) (u0 : Int32) (u1 u2 u3 c : Nat → Int32) (t : Nat) (ht : t < 32) :
    x_Sh_finish_90 fu jl n1 (n + 1) (nI at_) (nI t) u0 u1 u2 u3 c = x_Sh_finish_90 fu jl n1 n (nI at_) (nI (t + 1)) u0 u1 u2 u3 (upd c (at_ + t) (s_ob u1 t)) := by
  show xb_Sh_finish_90 fu jl n1 (x_Sh_finish_90 fu jl n1 n) (nI at_) (nI t) u0 u1 u2 u3 c = _
  unfold xb_Sh_finish_90
  rw [if_neg (show ¬ (32 : Int32) ≤ nI t from nI_ge (b := 32) (by omega) (by decide))]
  have e1 : nI t >>> ((2 : Int32) &&& 31) = nI (t / 4) := pk_shrN (n := t) (by omega) ((2 : Int32) &&& 31) 2 (by decide)
  have e2 : nI t &&& (3 : Int32) = nI (t % 4) := pk_andN (n := t) (by omega) 2 (by decide)
  simp only [bnd, nI_1, e1, e2, nI_add, pk_vb]
  rw [gd_t (inb_nI (by omega) (by omega)), gd_t (inb_nI (by omega) (by omega)), nI_clamp (n := t / 4) (by omega), nI_clamp (n := at_ + t) (by omega)]
  rfl
theorem sh_out (fu : Nat) (jl : Int64) (n1 : Nat) (hn1 : n1 < 2 ^ 31) (at_ : Nat) (ha : at_ + 32 ≤ n1) (u0 : Int32) (u1 u2 u3 c : Nat → Int32) (n : Nat) : ∀ i, i ≤ 32 →
    x_Sh_finish_90 fu jl n1 (n + 32) (nI at_) 0 u0 u1 u2 u3 c = x_Sh_finish_90 fu jl n1 (n + (32 - i)) (nI at_) (nI i) u0 u1 u2 u3 (s_out u1 at_ c i)
  | 0, _ => rfl
  | i + 1, h => by
    rw [sh_out fu jl n1 hn1 at_ ha u0 u1 u2 u3 c n i (by omega)]
    have e1 : n + (32 - i) = (n + (32 - (i + 1))) + 1 := by omega
    rw [e1, sh_out1 fu jl n1 hn1 _ at_ ha u0 u1 u2 u3 _ i (by omega)]
    rfl
theorem sh_oute (fu : Nat) (jl : Int64) (n1 n : Nat) (x2 u0 : Int32) (u1 u2 u3 c : Nat → Int32) : x_Sh_finish_90 fu jl n1 (n + 1) x2 (nI 32) u0 u1 u2 u3 c = some (u0, u1, u2, u3, c) := by
  show xb_Sh_finish_90 fu jl n1 (x_Sh_finish_90 fu jl n1 n) x2 (nI 32) u0 u1 u2 u3 c = _
  unfold xb_Sh_finish_90
  rw [if_pos (show (32 : Int32) ≤ nI 32 from by decide)]
/-- behind the zeros: the length, the last chunk, the answer -/
theorem sh_tail (fu : Nat) (hfu : 65 ≤ fu) (jl : Int64) (n1 : Nat) (hn1 : n1 < 2 ^ 31) (at_ : Nat) (ha : at_ + 32 ≤ n1) (a : Nat) (hA : a ≤ 56) (st w c to : Nat → Int32) :
    ∃ w' : Nat → Int32, xb_Sh_finish_40 fu jl n1 (nI at_) (nI a) st w c to = some (0, s_cmp kc st (fun i => s_wd (s_ln jl (s_zr c a 56) 8) i), w', s_ln jl (s_zr c a 56) 8, s_out (s_cmp kc st (fun i => s_wd (s_ln jl (s_zr c a 56) 8) i)) at_ to 32) := by
  obtain ⟨k2, e2⟩ : ∃ k, fu = (k + 1) + 8 := ⟨fu - 9, by omega⟩
  obtain ⟨k3, e3⟩ : ∃ k, fu = (k + 1) + 32 := ⟨fu - 33, by omega⟩
  have f1 : x_Sh_fillWithZeros fu (nI a) jl (56 : Int32) c = some (s_zr c a 56) := sh_fill fu (nI a) jl 56 (by omega) (56 - a) fu a c (by omega) (by omega)
  have f2 : x_Sh_finish_48 fu jl n1 fu (nI at_) 0 (nI a) st w (s_zr c a 56) to = x_Sh_finish_48 fu jl n1 (k2 + 1) (nI at_) (nI 8) (nI a) st w (s_ln jl (s_zr c a 56) 8) to := by
    have h := sh_len fu jl n1 (nI at_) (nI a) st w (s_zr c a 56) to (k2 + 1) 8 (Nat.le_refl _)
    rw [← e2] at h
    exact h
  have hcw : s_cmp kc st (s_ld (s_ln jl (s_zr c a 56) 8) w 16) = s_cmp kc st (fun i => s_wd (s_ln jl (s_zr c a 56) 8) i) := s_cmp_w (fun i hi => s_ld_at _ _ 16 i hi)
  refine ⟨s_sch (s_ld (s_ln jl (s_zr c a 56) 8) w 16) 48, ?_⟩
  unfold xb_Sh_finish_40
  rw [f1]
  show x_Sh_finish_48 fu jl n1 fu (nI at_) 0 (nI a) st w (s_zr c a 56) to = _
  rw [f2]
  show xb_Sh_finish_48 fu jl n1 (x_Sh_finish_48 fu jl n1 k2) (nI at_) (nI 8) (nI a) st w (s_ln jl (s_zr c a 56) 8) to = _
  unfold xb_Sh_finish_48
  rw [if_pos (show (8 : Int32) ≤ nI 8 from by decide), sh_mix fu hfu, hcw]
  show x_Sh_finish_90 fu jl n1 fu (nI at_) 0 0 _ _ _ to = _
  have h := sh_out fu jl n1 hn1 at_ ha 0 (s_cmp kc st (fun i => s_wd (s_ln jl (s_zr c a 56) 8) i)) (s_sch (s_ld (s_ln jl (s_zr c a 56) 8) w 16) 48) (s_ln jl (s_zr c a 56) 8) to (k3 + 1) 32 (Nat.le_refl _)
  rw [← e3] at h
  rw [h]
  exact sh_oute fu jl n1 k3 _ _ _ _ _ _
