-- Sha256.once
theorem bd1_s {α β : Type} (x : α) (k : α → Option β) : bd1 (some x) k = k x := rfl
theorem bd3_s {α β γ δ : Type} (x : α) (y : β) (z : γ) (k : α → β → γ → Option δ) : bd3 (some (x, y, z)) k = k x y z := rfl
theorem bd5_s {α β γ δ ε ζ : Type} (x : α) (y : β) (z : γ) (v : δ) (w : ε) (k : α → β → γ → δ → ε → Option ζ) : bd5 (some (x, y, z, v, w)) k = k x y z v w := rfl
theorem cl0 : (0 : Int32).toNatClampNeg = 0 := by decide
theorem cl8 : (8 : Int32).toNatClampNeg = 8 := by decide
def s_nb (n : Nat) : Nat := (n + 72) / 64
/-- the text of n bytes with what SHA-256 puts behind it -/
def s_pd (m : Nat → Int32) (n : Nat) : Nat → Int32 := fun j => if j < n then m j else if j = n then -128 else if j < 64 * s_nb n - 8 then 0 else s_lb (lN n) (64 * s_nb n - 1 - j)
def s_sh (m : Nat → Int32) (n : Nat) : Nat → Int32 := s_it (s_pd m n) (s_nb n)
theorem s_ln_at (jl : Int64) (c : Nat → Int32) : ∀ i, i ≤ 8 → ∀ j, j < 64 → s_ln jl c i j = if 64 - i ≤ j then s_lb jl (63 - j) else c j
  | 0, _, j, hj => by rw [if_neg (by omega)]; rfl
  | i + 1, hi, j, hj => by
    unfold s_ln
    by_cases e : j = 63 - i
    · subst e
      rw [pk_us, if_pos (by omega)]
      congr 1
      omega
    · rw [pk_un e, s_ln_at jl c i (by omega) j hj]
      by_cases e2 : 64 - i ≤ j
      · rw [if_pos e2, if_pos (by omega)]
      · rw [if_neg e2, if_neg (by omega)]
theorem s_pd_it {m : Nat → Int32} {n q : Nat} (h : 64 * q ≤ n) : s_it (s_pd m n) q = s_it m q :=
  s_it_c q (fun j hj => by unfold s_pd; rw [if_pos (by omega)])
theorem s_out_c {st st' : Nat → Int32} (h : ∀ j, j < 8 → st j = st' j) (at_ : Nat) (c : Nat → Int32) : ∀ i, i ≤ 32 → s_out st at_ c i = s_out st' at_ c i
  | 0, _ => rfl
  | i + 1, hi => by
    unfold s_out s_ob
    rw [s_out_c h at_ c i (by omega), h (i / 4) (by omega)]
theorem sh_fin (fu : Nat) (hfu : 65 ≤ fu) (n1 : Nat) (hn1 : n1 < 2 ^ 31) (at_ : Nat) (ha : at_ + 32 ≤ n1) (m : Nat → Int32) (n : Nat) (u0 : Int32) (u1 : Int64) (st w ck to : Nat → Int32) (hi : s_inv m n u0 u1 st ck) :
    ∃ (st' w' ck' : Nat → Int32), (∀ j, j < 8 → st' j = s_sh m n j) ∧ x_Sh_finish fu u1 n1 (nI at_) u0 st w ck to = some (0, st', w', ck', s_out (s_sh m n) at_ to 32) := by
  obtain ⟨rfl, rfl, hst, hck⟩ := hi
  obtain ⟨q, hq⟩ : ∃ q, q = n / 64 := ⟨_, rfl⟩
  obtain ⟨fl, hfl⟩ : ∃ fl, fl = n % 64 := ⟨_, rfl⟩
  have eL : n = 64 * q + fl := by omega
  have hlt : fl < 64 := by omega
  rw [← hq] at hst hck
  rw [← hfl] at hck ⊢
  have hst2 : ∀ j, j < 8 → st j = s_it (s_pd m n) q j := fun j hj => by rw [s_pd_it (by omega)]; exact hst j hj
  have hf1 : ∀ j, j ≤ fl → upd ck fl (-128) j = s_pd m n (64 * q + j) := by
    intro j hj
    unfold s_pd
    by_cases e : j = fl
    · subst e
      rw [pk_us, if_neg (by omega), if_pos (by omega)]
    · rw [pk_un e, if_pos (by omega)]
      exact hck j (by omega)
  have hstep : x_Sh_finish fu (lN n) n1 (nI at_) (nI fl) st w ck to = if nI (fl + 1) ≤ (56 : Int32) then (xb_Sh_finish_40 fu (lN n) n1 (nI at_) (nI (fl + 1)) st w (upd ck fl (-128)) to) else (bd1 (x_Sh_fillWithZeros fu (nI (fl + 1)) (lN n) (64 : Int32) (upd ck fl (-128))) fun f3 => bd3 (x_Sh_mix fu (lN n) f3 (nI (fl + 1)) st w) fun e4 f5 f6 => xb_Sh_finish_40 fu (lN n) n1 (nI at_) e4 f5 f6 f3 to) := by
    unfold x_Sh_finish
    rw [gd_t (inb_nI (by omega) (by omega)), nI_clamp (n := fl) (by omega), nar80, nI_1]
    rfl
  rw [hstep]
  by_cases hc : fl + 1 ≤ 56
  · have hnb : s_nb n = q + 1 := by unfold s_nb; omega
    rw [if_pos (show nI (fl + 1) ≤ (56 : Int32) from nI_le (b := 56) (by omega) (by decide))]
    obtain ⟨w', hw⟩ := sh_tail fu hfu (lN n) n1 hn1 at_ ha (fl + 1) hc st w (upd ck fl (-128)) to
    have hs : ∀ j, j < 8 → s_cmp kc st (fun i => s_wd (s_ln (lN n) (s_zr (upd ck fl (-128)) (fl + 1) 56) 8) i) j = s_sh m n j := by
      intro j hj
      unfold s_sh
      rw [hnb]
      show _ = s_cmp kc (s_it (s_pd m n) q) _ j
      rw [s_cmp_w (w' := fun i => s_wd (fun j => s_pd m n (64 * q + j)) i) (fun i hi => s_wd_c (fun j hj => by
        rw [s_ln_at (lN n) _ 8 (by omega) j hj]
        by_cases e1 : 64 - 8 ≤ j
        · rw [if_pos e1]
          unfold s_pd
          rw [if_neg (by omega), if_neg (by omega), if_neg (by omega), hnb]
          congr 1
          omega
        · rw [if_neg e1]
          unfold s_zr
          by_cases e2 : fl + 1 ≤ j ∧ j < 56
          · rw [if_pos e2]
            unfold s_pd
            rw [if_neg (by omega), if_neg (by omega), if_pos (by omega)]
          · rw [if_neg e2]
            exact hf1 j (by omega)) hi)]
      exact s_cmp_s hst2 j hj
    refine ⟨_, w', s_ln (lN n) (s_zr (upd ck fl (-128)) (fl + 1) 56) 8, hs, ?_⟩
    rw [hw, s_out_c hs at_ to 32 (by omega)]
  · have hnb : s_nb n = q + 2 := by unfold s_nb; omega
    rw [if_neg (show ¬ nI (fl + 1) ≤ (56 : Int32) from nI_ge (a := 56) (by omega) (by omega))]
    rw [show x_Sh_fillWithZeros fu (nI (fl + 1)) (lN n) (64 : Int32) (upd ck fl (-128)) = some (s_zr (upd ck fl (-128)) (fl + 1) 64) from sh_fill fu (nI (fl + 1)) (lN n) 64 (by omega) (64 - (fl + 1)) fu (fl + 1) _ (by omega) (by omega)]
    rw [bd1_s, sh_mix fu hfu, bd3_s]
    have hs1 : ∀ j, j < 8 → s_cmp kc st (s_ld (s_zr (upd ck fl (-128)) (fl + 1) 64) w 16) j = s_it (s_pd m n) (q + 1) j := by
      intro j hj
      show _ = s_cmp kc (s_it (s_pd m n) q) _ j
      rw [s_cmp_w (w' := fun i => s_wd (fun j => s_pd m n (64 * q + j)) i) (fun i hi => by
        rw [s_ld_at _ _ 16 i hi]
        exact s_wd_c (fun j hj => by
          unfold s_zr
          by_cases e2 : fl + 1 ≤ j ∧ j < 64
          · rw [if_pos e2]
            unfold s_pd
            rw [if_neg (by omega), if_neg (by omega), if_pos (by omega)]
          · rw [if_neg e2]
            exact hf1 j (by omega)) hi)]
      exact s_cmp_s hst2 j hj
    obtain ⟨w', hw⟩ := sh_tail fu hfu (lN n) n1 hn1 at_ ha 0 (by omega) (s_cmp kc st (s_ld (s_zr (upd ck fl (-128)) (fl + 1) 64) w 16)) (s_sch (s_ld (s_zr (upd ck fl (-128)) (fl + 1) 64) w 16) 48) (s_zr (upd ck fl (-128)) (fl + 1) 64) to
    have hs : ∀ j, j < 8 → s_cmp kc (s_cmp kc st (s_ld (s_zr (upd ck fl (-128)) (fl + 1) 64) w 16)) (fun i => s_wd (s_ln (lN n) (s_zr (s_zr (upd ck fl (-128)) (fl + 1) 64) 0 56) 8) i) j = s_sh m n j := by
      intro j hj
      unfold s_sh
      rw [hnb]
      show _ = s_cmp kc (s_it (s_pd m n) (q + 1)) _ j
      rw [s_cmp_w (w' := fun i => s_wd (fun j => s_pd m n (64 * (q + 1) + j)) i) (fun i hi => s_wd_c (fun j hj => by
        rw [s_ln_at (lN n) _ 8 (by omega) j hj]
        by_cases e1 : 64 - 8 ≤ j
        · rw [if_pos e1]
          unfold s_pd
          rw [if_neg (by omega), if_neg (by omega), if_neg (by omega), hnb]
          congr 1
          omega
        · rw [if_neg e1]
          unfold s_zr
          rw [if_pos (by omega)]
          unfold s_pd
          rw [if_neg (by omega), if_neg (by omega), if_pos (by omega)]) hi)]
      exact s_cmp_s hs1 j hj
    refine ⟨_, w', s_ln (lN n) (s_zr (s_zr (upd ck fl (-128)) (fl + 1) 64) 0 56) 8, hs, ?_⟩
    show xb_Sh_finish_40 fu (lN n) n1 (nI at_) (nI 0) _ _ _ to = _
    rw [hw, s_out_c hs at_ to 32 (by omega)]
/-- Sha256.once(from, a, n, to, at): the answer of n bytes is written -/
theorem sh_once (fu : Nat) (hfu : 65 ≤ fu) (n1 : Nat) (hn1 : n1 < 2 ^ 31) (n4 : Nat) (hn4 : n4 < 2 ^ 31) (h1 : Nat → Int32) (a n : Nat) (hf2 : n < fu) (hb : a + n ≤ n1) (hfit : ∀ j, j < n → fits .byte (.int (h1 (a + j))) = true) (at_ : Nat) (ha : at_ + 32 ≤ n4) (u0 : Int32) (u1 : Int64) (u2 u3 u4 u5 : Nat → Int32) :
    ∃ (st' w' ck' : Nat → Int32), (∀ j, j < 8 → st' j = s_sh (fun j => h1 (a + j)) n j) ∧ x_Sh_once fu n1 h1 n4 (nI a) (nI n) (nI at_) u0 u1 u2 u3 u4 u5 = some (0, lN n, st', w', ck', s_out (s_sh (fun j => h1 (a + j)) n) at_ u5 32) := by
  have hi0 : s_inv (fun j => h1 (a + j)) 0 0 0 (va_cpy (fun j => tb_1.getD j 0) u2 0 0 8) u4 :=
    ⟨rfl, rfl, fun j hj => by rw [pk_cpy_in (by omega) (by omega)]; show tb_1.getD (0 + (j - 0)) 0 = tb_1.getD j 0; congr 1; omega, fun j hj => absurd hj (Nat.not_lt_zero _)⟩
  obtain ⟨v0, v1, st1, w1, ck1, hi1, hs1⟩ := sh_add fu hfu n1 hn1 h1 (fun j => h1 (a + j)) (a + n) hb n fu 0 a hf2 rfl (by omega) hfit (fun j hj => by rw [Nat.zero_add]) 0 0 (va_cpy (fun j => tb_1.getD j 0) u2 0 0 8) u3 u4 hi0
  rw [Nat.zero_add] at hi1
  obtain ⟨st2, w2, ck2, hs2, hf⟩ := sh_fin fu hfu n4 hn4 at_ ha (fun j => h1 (a + j)) n v0 v1 st1 w1 ck1 u5 hi1
  refine ⟨st2, w2, ck2, hs2, ?_⟩
  have hv1 : v1 = lN n := hi1.2.1
  subst hv1
  unfold x_Sh_once x_Sh_begin
  rw [gd_t (by decide), bnd_e, bd3_s, bnd_e, nI_add, cl0, cl8]
  unfold x_Sh_add
  rw [hs1, bd5_s, hf, bd5_s]
