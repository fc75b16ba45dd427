-- congruence: a chunk's words and a state's eight words are all that counts
theorem s_ex_c {w w' : Nat → Int32} {t : Nat} (ht : 16 ≤ t) (h : ∀ j, j < t → w j = w' j) : s_ex w t = s_ex w' t := by
  unfold s_ex
  rw [h (t - 16) (by omega), h (t - 15) (by omega), h (t - 7) (by omega), h (t - 2) (by omega)]
theorem s_sch_c {w w' : Nat → Int32} (h : ∀ j, j < 16 → w j = w' j) : ∀ i j, j < 16 + i → s_sch w i j = s_sch w' i j
  | 0, j, hj => h j hj
  | i + 1, j, hj => by
    unfold s_sch
    by_cases e1 : j = 16 + i
    · subst e1
      rw [pk_us, pk_us]
      exact s_ex_c (by omega) (fun k hk => s_sch_c h i k hk)
    · rw [pk_un e1, pk_un e1]
      exact s_sch_c h i j (by omega)
theorem s_rds_c {kf w w' : Nat → Int32} (v : S8) : ∀ i, (∀ j, j < i → w j = w' j) → s_rds kf w v i = s_rds kf w' v i
  | 0, _ => rfl
  | i + 1, h => by
    unfold s_rds
    rw [h i (by omega), s_rds_c v i (fun j hj => h j (by omega))]
theorem s_cmp_w {kf st w w' : Nat → Int32} (h : ∀ j, j < 16 → w j = w' j) : s_cmp kf st w = s_cmp kf st w' := by
  unfold s_cmp
  rw [s_rds_c (s_st st) 64 (fun j hj => s_sch_c h 48 j hj)]
theorem s_st_c {st st' : Nat → Int32} (h : ∀ j, j < 8 → st j = st' j) : s_st st = s_st st' := by
  unfold s_st
  rw [h 0 (by omega), h 1 (by omega), h 2 (by omega), h 3 (by omega), h 4 (by omega), h 5 (by omega), h 6 (by omega), h 7 (by omega)]
theorem upd_c {f g : Nat → Int32} {k : Nat} {x : Int32} (h : ∀ j, j < 8 → f j = g j) : ∀ j, j < 8 → upd f k x j = upd g k x j := by
  intro j hj
  by_cases e : j = k
  · subst e; rw [pk_us, pk_us]
  · rw [pk_un e, pk_un e]; exact h j hj
theorem s_fin_c {st st' : Nat → Int32} (v : S8) (h : ∀ j, j < 8 → st j = st' j) : ∀ j, j < 8 → s_fin st v j = s_fin st' v j := by
  unfold s_fin
  rw [h 0 (by omega), h 1 (by omega), h 2 (by omega), h 3 (by omega), h 4 (by omega), h 5 (by omega), h 6 (by omega), h 7 (by omega)]
  exact upd_c (upd_c (upd_c (upd_c (upd_c (upd_c (upd_c (upd_c h)))))))
theorem s_cmp_s {kf st st' w : Nat → Int32} (h : ∀ j, j < 8 → st j = st' j) : ∀ j, j < 8 → s_cmp kf st w j = s_cmp kf st' w j := by
  unfold s_cmp
  rw [s_st_c h]
  exact s_fin_c _ h
theorem s_ld_at (ck w : Nat → Int32) : ∀ i j, j < i → s_ld ck w i j = s_wd ck j
  | 0, j, h => absurd h (Nat.not_lt_zero _)
  | i + 1, j, h => by
    unfold s_ld
    by_cases e1 : j = i
    · subst e1; rw [pk_us]
    · rw [pk_un e1]; exact s_ld_at ck w i j (by omega)
theorem m_ld_at (p : Nat → Int32) (o : Nat) (w : Nat → Int32) : ∀ i j, j < i → m_ld p o w i j = m_wd p o j
  | 0, j, h => absurd h (Nat.not_lt_zero _)
  | i + 1, j, h => by
    unfold m_ld
    by_cases e1 : j = i
    · subst e1; rw [pk_us]
    · rw [pk_un e1]; exact m_ld_at p o w i j (by omega)
theorem kmc : km = kc := by
  have h : tb_15 = tb_2 := by decide +kernel
  funext j
  unfold km kc
  rw [h]
/-- the state behind q chunks of the text m -/
def s_it (m : Nat → Int32) : Nat → Nat → Int32
  | 0 => fun j => tb_1.getD j 0
  | q + 1 => s_cmp kc (s_it m q) (fun i => s_wd (fun j => m (64 * q + j)) i)
theorem s_wd_c {c c' : Nat → Int32} {i : Nat} (h : ∀ j, j < 64 → c j = c' j) (hi : i < 16) : s_wd c i = s_wd c' i := by
  unfold s_wd
  rw [h (4 * i) (by omega), h (4 * i + 1) (by omega), h (4 * i + 2) (by omega), h (4 * i + 3) (by omega)]
theorem s_it_c {m m' : Nat → Int32} : ∀ q, (∀ j, j < 64 * q → m j = m' j) → s_it m q = s_it m' q
  | 0, _ => rfl
  | q + 1, h => by
    unfold s_it
    rw [s_it_c q (fun j hj => h j (by omega))]
    exact s_cmp_w (fun i hi => s_wd_c (fun j hj => h (64 * q + j) (by omega)) hi)
/-- the stream: L bytes of m are in: chunks of them in st, the rest in ck -/
def s_inv (m : Nat → Int32) (L : Nat) (u0 : Int32) (u1 : Int64) (st ck : Nat → Int32) : Prop :=
  u0 = nI (L % 64) ∧ u1 = lN L ∧ (∀ j, j < 8 → st j = s_it m (L / 64) j) ∧ ∀ j, j < L % 64 → ck j = m (64 * (L / 64) + j)
theorem cpk_nI {a b n n0 n1 : Nat} (h1 : a + n ≤ n0) (h2 : b + n ≤ n1) (h3 : n0 < 2 ^ 31) (h4 : n1 < 2 ^ 31) : cpk (nI a) (nI b) (nI n) n0 n1 = true :=
  decide_eq_true ⟨nI_pos (by omega), nI_pos (by omega), nI_pos (by omega), by rw [nI_clamp (by omega), nI_clamp (by omega)]; exact h1, by rw [nI_clamp (by omega), nI_clamp (by omega)]; exact h2⟩
theorem bfit_nI {f : Nat → Int32} {a n : Nat} (ha : a < 2 ^ 31) (hn : n < 2 ^ 31) (h : ∀ j, j < n → fits .byte (.int (f (a + j))) = true) : bfit f (nI a) (nI n) = true := by
  unfold bfit
  rw [nI_clamp ha, nI_clamp hn]
  exact List.all_eq_true.mpr (fun i hi => h i (List.mem_range.mp hi))
theorem sh_cpy {m h1 ck : Nat → Int32} {L pl fl part q : Nat} (e1 : L = 64 * q + fl) (hck : ∀ j, j < fl → ck j = m (64 * q + j)) (hm : ∀ j, j < part → m (L + j) = h1 (pl + j)) : ∀ j, j < fl + part → va_cpy h1 ck pl fl part j = m (64 * q + j) := by
  intro j hj
  by_cases h : j < fl
  · rw [pk_cpy_out (Or.inl h)]
    exact hck j h
  · rw [pk_cpy_in (by omega) hj, ← hm (j - fl) (by omega)]
    congr 1
    omega
theorem sh_add1 (fu : Nat) (hfu : 65 ≤ fu) (n1 : Nat) (hn1 : n1 < 2 ^ 31) (h1 m : Nat → Int32) (n L pl r : Nat) (hr : 0 < r) (hb : pl + r ≤ n1) (hL : L + r < 2 ^ 31) (hfit : ∀ j, j < r → fits .byte (.int (h1 (pl + j))) = true) (hm : ∀ j, j < r → m (L + j) = h1 (pl + j)) (u0 : Int32) (u1 : Int64) (st w ck : Nat → Int32) (hi : s_inv m L u0 u1 st ck) :
    ∃ (part : Nat) (u0' : Int32) (u1' : Int64) (st' w' ck' : Nat → Int32), 0 < part ∧ part ≤ r ∧ s_inv m (L + part) u0' u1' st' ck' ∧
      x_Sh_add_3 fu n1 h1 (n + 1) (nI (pl + r)) (nI pl) u0 u1 st w ck = x_Sh_add_3 fu n1 h1 n (nI (pl + r)) (nI (pl + part)) u0' u1' st' w' ck' := by
  obtain ⟨rfl, rfl, hst, hck⟩ := hi
  obtain ⟨q, hq⟩ : ∃ q, q = L / 64 := ⟨_, rfl⟩
  obtain ⟨fl, hfl⟩ : ∃ fl, fl = L % 64 := ⟨_, rfl⟩
  have eL : L = 64 * q + fl := by omega
  have hlt : fl < 64 := by omega
  rw [← hq] at hst hck
  rw [← hfl] at hck ⊢
  obtain ⟨part, hpart⟩ : ∃ part, part = if r < 64 - fl then r else 64 - fl := ⟨_, rfl⟩
  have hp0 : 0 < part ∧ part ≤ r ∧ fl + part ≤ 64 := by
    by_cases h : r < 64 - fl
    · rw [if_pos h] at hpart; omega
    · rw [if_neg h] at hpart; omega
  have e1 : (64 : Int32) - nI fl = nI (64 - fl) := pk_sub (a := 64) (by omega)
  have e2 : nI (pl + r) - nI pl = nI r := by
    rw [pk_sub (by omega)]
    congr 1
    omega
  have e3 : (if nI r < nI (64 - fl) then nI r else nI (64 - fl)) = nI part := by
    by_cases h : r < 64 - fl
    · rw [if_pos (nI_lt h (by omega)), hpart, if_pos h]
    · rw [if_neg (nI_nlt (by omega) (by omega)), hpart, if_neg h]
  have hstep : x_Sh_add_3 fu n1 h1 (n + 1) (nI (pl + r)) (nI pl) (nI fl) (lN L) st w ck = if nI (fl + part) = (64 : Int32) then (bd3 (x_Sh_mix fu (lN (L + part)) (va_cpy h1 ck pl fl part) (nI (fl + part)) st w) fun e8 f9 f10 => x_Sh_add_3 fu n1 h1 n (nI (pl + r)) (nI (pl + part)) e8 (lN (L + part)) f9 f10 (va_cpy h1 ck pl fl part)) else x_Sh_add_3 fu n1 h1 n (nI (pl + r)) (nI (pl + part)) (nI (fl + part)) (lN (L + part)) st w (va_cpy h1 ck pl fl part) := by
    show xb_Sh_add_3 fu n1 h1 (x_Sh_add_3 fu n1 h1 n) (nI (pl + r)) (nI pl) (nI fl) (lN L) st w ck = _
    unfold xb_Sh_add_3
    rw [if_neg (nI_ge (a := pl) (b := pl + r) (by omega) (by omega))]
    simp only [bnd, e1, e2, e3]
    rw [gd_t (cpk_nI (by omega) (by omega) (by omega) (by omega)), gd_t (bfit_nI (by omega) (by omega) (fun j hj => hfit j (by omega)))]
    rw [nI_clamp (n := pl) (by omega), nI_clamp (n := fl) (by omega), nI_clamp (n := part) (by omega), nI_add, nI_add, nI_l (by omega), lN_add]
    rfl
  rw [hstep]
  by_cases hfull : fl + part = 64
  · rw [if_pos (by rw [hfull]; rfl), sh_mix fu hfu]
    refine ⟨part, 0, lN (L + part), _, _, _, hp0.1, hp0.2.1, ⟨?_, rfl, ?_, ?_⟩, rfl⟩
    · rw [show (L + part) % 64 = 0 by omega]; rfl
    · intro j hj
      rw [show (L + part) / 64 = q + 1 by omega]
      show _ = s_cmp kc (s_it m q) _ j
      rw [s_cmp_w (w' := fun i => s_wd (fun j => m (64 * q + j)) i) (fun i hi => by
        rw [s_ld_at _ _ 16 i hi]
        exact s_wd_c (fun j hj => sh_cpy eL hck (fun j hj => hm j (by omega)) j (by omega)) hi)]
      exact s_cmp_s hst j hj
    · intro j hj
      rw [show (L + part) % 64 = 0 by omega] at hj
      exact absurd hj (Nat.not_lt_zero _)
  · rw [if_neg (show ¬ nI (fl + part) = (64 : Int32) from fun h => hfull ((nI_eq (by omega) (by decide)).mp (show nI (fl + part) = nI 64 from h)))]
    refine ⟨part, _, _, _, _, _, hp0.1, hp0.2.1, ⟨?_, rfl, ?_, ?_⟩, rfl⟩
    · rw [show (L + part) % 64 = fl + part by omega]
    · intro j hj
      rw [show (L + part) / 64 = q by omega]
      exact hst j hj
    · intro j hj
      rw [show (L + part) % 64 = fl + part by omega] at hj
      rw [show (L + part) / 64 = q by omega]
      exact sh_cpy eL hck (fun j hj => hm j (by omega)) j hj
/-- Sha256.add: the next r bytes of the text are in -/
theorem sh_add (fu : Nat) (hfu : 65 ≤ fu) (n1 : Nat) (hn1 : n1 < 2 ^ 31) (h1 m : Nat → Int32) (en : Nat) (hen : en ≤ n1) : ∀ (r n L pl : Nat), r < n → pl + r = en → L + r < 2 ^ 31 → (∀ j, j < r → fits .byte (.int (h1 (pl + j))) = true) → (∀ j, j < r → m (L + j) = h1 (pl + j)) → ∀ (u0 : Int32) (u1 : Int64) (st w ck : Nat → Int32), s_inv m L u0 u1 st ck →
    ∃ (u0' : Int32) (u1' : Int64) (st' w' ck' : Nat → Int32), s_inv m (L + r) u0' u1' st' ck' ∧ x_Sh_add_3 fu n1 h1 n (nI en) (nI pl) u0 u1 st w ck = some (u0', u1', st', w', ck') := by
  intro r
  induction r using Nat.strongRecOn with
  | _ r ih =>
    intro n L pl hn he hL hfit hm u0 u1 st w ck hi
    obtain ⟨n', rfl⟩ : ∃ n', n = n' + 1 := ⟨n - 1, by omega⟩
    by_cases hr : r = 0
    · subst hr
      refine ⟨u0, u1, st, w, ck, hi, ?_⟩
      show xb_Sh_add_3 fu n1 h1 (x_Sh_add_3 fu n1 h1 n') (nI en) (nI pl) u0 u1 st w ck = _
      unfold xb_Sh_add_3
      rw [if_pos (nI_le (by omega) (by omega))]
    · subst he
      obtain ⟨part, v0, v1, st1, w1, ck1, hp0, hp1, hi1, hs⟩ := sh_add1 fu hfu n1 hn1 h1 m n' L pl r (by omega) hen hL hfit hm u0 u1 st w ck hi
      rw [hs]
      obtain ⟨y0, y1, st2, w2, ck2, hi2, hs2⟩ := ih (r - part) (by omega) n' (L + part) (pl + part) (by omega) (by omega) (by omega) (fun j hj => by rw [Nat.add_assoc]; exact hfit _ (by omega)) (fun j hj => by rw [Nat.add_assoc, Nat.add_assoc]; exact hm _ (by omega)) v0 v1 st1 w1 ck1 hi1
      refine ⟨y0, y1, st2, w2, ck2, ?_, hs2⟩
      rw [show L + r = L + part + (r - part) by omega]
      exact hi2
-- Sha256.finish
theorem nar0 : vp_nar .byte (0 : Int32) = 0 := by decide
theorem nar80 : vp_nar .byte (-128 : Int32) = -128 := by decide
def s_zr (c : Nat → Int32) (a b : Nat) : Nat → Int32 := fun j => if a ≤ j ∧ j < b then 0 else c j
theorem sh_fill (fu : Nat) (i0 : Int32) (jl : Int64) (b : Nat) (hb : b ≤ 64) : ∀ (d n a : Nat) (c : Nat → Int32), a + d = b → d < n →
    x_Sh_fillWithZeros_5 fu i0 jl n (nI b) (nI a) c = some (s_zr c a b)
  | 0, n, a, c, h, hn => by
    obtain ⟨n', rfl⟩ : ∃ n', n = n' + 1 := ⟨n - 1, by omega⟩
    show xb_Sh_fillWithZeros_5 fu i0 jl (x_Sh_fillWithZeros_5 fu i0 jl n') (nI b) (nI a) c = _
    unfold xb_Sh_fillWithZeros_5
    rw [if_pos (nI_le (by omega) (by omega))]
    congr 1
    funext j
    unfold s_zr
    rw [if_neg (by omega)]
  | d + 1, n, a, c, h, hn => by
    obtain ⟨n', rfl⟩ : ∃ n', n = n' + 1 := ⟨n - 1, by omega⟩
    show xb_Sh_fillWithZeros_5 fu i0 jl (x_Sh_fillWithZeros_5 fu i0 jl n') (nI b) (nI a) c = _
    unfold xb_Sh_fillWithZeros_5
    rw [if_neg (nI_ge (a := a) (b := b) (by omega) (by omega))]
    simp only [bnd, nI_1, nar0]
    rw [gd_t (inb_nI (by omega) (by omega)), nI_clamp (by omega), sh_fill fu i0 jl b hb d n' (a + 1) _ (by omega) (by omega)]
    congr 1
    funext j
    unfold s_zr
    by_cases e1 : j = a
    · subst e1
      rw [if_neg (by omega), if_pos (by omega), pk_us]
    · rw [pk_un e1]
      by_cases e2 : a ≤ j ∧ j < b
      · rw [if_pos (by omega), if_pos e2]
      · rw [if_neg (by omega), if_neg e2]
/-- the byte that the length puts at place k from the end -/
def s_lb (jl : Int64) (k : Nat) : Int32 := (((jl * 8).toUInt64 >>> (((8 : Int32) * nI k).toInt64.toUInt64 &&& Int64.toUInt64 63)).toInt64).toInt32.toInt8.toInt32
def s_ln (jl : Int64) (c : Nat → Int32) : Nat → Nat → Int32
  | 0 => c
  | i + 1 => upd (s_ln jl c i) (63 - i) (s_lb jl i)
theorem sh_len1 (fu : Nat) (jl : Int64) (n1 n : Nat) (x2 u0 : Int32) (u1 u2 c u4 : Nat → Int32) (t : Nat) (ht : t < 8) :
    x_Sh_finish_48 fu jl n1 (n + 1) x2 (nI t) u0 u1 u2 c u4 = x_Sh_finish_48 fu jl n1 n x2 (nI (t + 1)) u0 u1 u2 (upd c (63 - t) (s_lb jl t)) u4 := by
  show xb_Sh_finish_48 fu jl n1 (x_Sh_finish_48 fu jl n1 n) x2 (nI t) u0 u1 u2 c u4 = _
  unfold xb_Sh_finish_48
  rw [if_neg (show ¬ (8 : Int32) ≤ nI t from nI_ge (b := 8) (by omega) (by decide))]
  have e1 : (63 : Int32) - nI t = nI (63 - t) := pk_sub (a := 63) (by omega)
  simp only [bnd, nI_1, e1, pk_vb]
  rw [gd_t (inb_nI (by omega) (by omega)), nI_clamp (by omega)]
  rfl
theorem sh_len (fu : Nat) (jl : Int64) (n1 : Nat) (x2 u0 : Int32) (u1 u2 c u4 : Nat → Int32) (n : Nat) : ∀ i, i ≤ 8 →
    x_Sh_finish_48 fu jl n1 (n + 8) x2 0 u0 u1 u2 c u4 = x_Sh_finish_48 fu jl n1 (n + (8 - i)) x2 (nI i) u0 u1 u2 (s_ln jl c i) u4
  | 0, _ => rfl
  | i + 1, h => by
    rw [sh_len fu jl n1 x2 u0 u1 u2 c u4 n i (by omega)]
    have e1 : n + (8 - i) = (n + (8 - (i + 1))) + 1 := by omega
    rw [e1, sh_len1 fu jl n1 _ x2 u0 u1 u2 _ u4 i (by omega)]
    rfl
/-- a byte of the answer -/
def s_ob (st : Nat → Int32) (i : Nat) : Int32 := (((st (i / 4)).toUInt32 >>> (((24 : Int32) - ((8 : Int32) * nI (i % 4))).toUInt32 &&& Int32.toUInt32 31)).toInt32).toInt8.toInt32
def s_out (st : Nat → Int32) (at_ : Nat) (c : Nat → Int32) : Nat → Nat → Int32
  | 0 => c
  | i + 1 => upd (s_out st at_ c i) (at_ + i) (s_ob st i)
theorem sh_out1 (fu : Nat) (jl : Int64) (n1 : Nat) (hn1 : n1 < 2 ^ 31) (n at_ : Nat) (ha : at_ + 32 ≤ n1) (u0 : Int32) (u1 u2 u3 c : Nat → Int32) (t : Nat) (ht : t < 32) :
    x_Sh_finish_90 fu jl n1 (n + 1) (nI at_) (nI t) u0 u1 u2 u3 c = x_Sh_finish_90 fu jl n1 n (nI at_) (nI (t + 1)) u0 u1 u2 u3 (upd c (at_ + t) (s_ob u1 t)) := by
  show xb_Sh_finish_90 fu jl n1 (x_Sh_finish_90 fu jl n1 n) (nI at_) (nI t) u0 u1 u2 u3 c = _
  unfold xb_Sh_finish_90
  rw [if_neg (show ¬ (32 : Int32) ≤ nI t from nI_ge (b := 32) (by omega) (by decide))]
  have e1 : nI t >>> ((2 : Int32) &&& 31) = nI (t / 4) := pk_shrN (n := t) (by omega) ((2 : Int32) &&& 31) 2 (by decide)
  have e2 : nI t &&& (3 : Int32) = nI (t % 4) := pk_andN (n := t) (by omega) 2 (by decide)
  simp only [bnd, nI_1, e1, e2, nI_add, pk_vb]
  rw [gd_t (inb_nI (by omega) (by omega)), gd_t (inb_nI (by omega) (by omega)), nI_clamp (n := t / 4) (by omega), nI_clamp (n := at_ + t) (by omega)]
  rfl
theorem sh_out (fu : Nat) (jl : Int64) (n1 : Nat) (hn1 : n1 < 2 ^ 31) (at_ : Nat) (ha : at_ + 32 ≤ n1) (u0 : Int32) (u1 u2 u3 c : Nat → Int32) (n : Nat) : ∀ i, i ≤ 32 →
    x_Sh_finish_90 fu jl n1 (n + 32) (nI at_) 0 u0 u1 u2 u3 c = x_Sh_finish_90 fu jl n1 (n + (32 - i)) (nI at_) (nI i) u0 u1 u2 u3 (s_out u1 at_ c i)
  | 0, _ => rfl
  | i + 1, h => by
    rw [sh_out fu jl n1 hn1 at_ ha u0 u1 u2 u3 c n i (by omega)]
    have e1 : n + (32 - i) = (n + (32 - (i + 1))) + 1 := by omega
    rw [e1, sh_out1 fu jl n1 hn1 _ at_ ha u0 u1 u2 u3 _ i (by omega)]
    rfl
theorem sh_oute (fu : Nat) (jl : Int64) (n1 n : Nat) (x2 u0 : Int32) (u1 u2 u3 c : Nat → Int32) : x_Sh_finish_90 fu jl n1 (n + 1) x2 (nI 32) u0 u1 u2 u3 c = some (u0, u1, u2, u3, c) := by
  show xb_Sh_finish_90 fu jl n1 (x_Sh_finish_90 fu jl n1 n) x2 (nI 32) u0 u1 u2 u3 c = _
  unfold xb_Sh_finish_90
  rw [if_pos (show (32 : Int32) ≤ nI 32 from by decide)]
/-- behind the zeros: the length, the last chunk, the answer -/
theorem sh_tail (fu : Nat) (hfu : 65 ≤ fu) (jl : Int64) (n1 : Nat) (hn1 : n1 < 2 ^ 31) (at_ : Nat) (ha : at_ + 32 ≤ n1) (a : Nat) (hA : a ≤ 56) (st w c to : Nat → Int32) :
    ∃ w' : Nat → Int32, xb_Sh_finish_40 fu jl n1 (nI at_) (nI a) st w c to = some (0, s_cmp kc st (fun i => s_wd (s_ln jl (s_zr c a 56) 8) i), w', s_ln jl (s_zr c a 56) 8, s_out (s_cmp kc st (fun i => s_wd (s_ln jl (s_zr c a 56) 8) i)) at_ to 32) := by
  obtain ⟨k2, e2⟩ : ∃ k, fu = (k + 1) + 8 := ⟨fu - 9, by omega⟩
  obtain ⟨k3, e3⟩ : ∃ k, fu = (k + 1) + 32 := ⟨fu - 33, by omega⟩
  have f1 : x_Sh_fillWithZeros fu (nI a) jl (56 : Int32) c = some (s_zr c a 56) := sh_fill fu (nI a) jl 56 (by omega) (56 - a) fu a c (by omega) (by omega)
  have f2 : x_Sh_finish_48 fu jl n1 fu (nI at_) 0 (nI a) st w (s_zr c a 56) to = x_Sh_finish_48 fu jl n1 (k2 + 1) (nI at_) (nI 8) (nI a) st w (s_ln jl (s_zr c a 56) 8) to := by
    have h := sh_len fu jl n1 (nI at_) (nI a) st w (s_zr c a 56) to (k2 + 1) 8 (Nat.le_refl _)
    rw [← e2] at h
    exact h
  have hcw : s_cmp kc st (s_ld (s_ln jl (s_zr c a 56) 8) w 16) = s_cmp kc st (fun i => s_wd (s_ln jl (s_zr c a 56) 8) i) := s_cmp_w (fun i hi => s_ld_at _ _ 16 i hi)
  refine ⟨s_sch (s_ld (s_ln jl (s_zr c a 56) 8) w 16) 48, ?_⟩
  unfold xb_Sh_finish_40
  rw [f1]
  show x_Sh_finish_48 fu jl n1 fu (nI at_) 0 (nI a) st w (s_zr c a 56) to = _
  rw [f2]
  show xb_Sh_finish_48 fu jl n1 (x_Sh_finish_48 fu jl n1 k2) (nI at_) (nI 8) (nI a) st w (s_ln jl (s_zr c a 56) 8) to = _
  unfold xb_Sh_finish_48
  rw [if_pos (show (8 : Int32) ≤ nI 8 from by decide), sh_mix fu hfu, hcw]
  show x_Sh_finish_90 fu jl n1 fu (nI at_) 0 0 _ _ _ to = _
  have h := sh_out fu jl n1 hn1 at_ ha 0 (s_cmp kc st (fun i => s_wd (s_ln jl (s_zr c a 56) 8) i)) (s_sch (s_ld (s_ln jl (s_zr c a 56) 8) w 16) 48) (s_ln jl (s_zr c a 56) 8) to (k3 + 1) 32 (Nat.le_refl _)
  rw [← e3] at h
  rw [h]
  exact sh_oute fu jl n1 k3 _ _ _ _ _ _
-- Sha256.once
theorem bd1_s {α β : Type} (x : α) (k : α → Option β) : bd1 (some x) k = k x := rfl
theorem bd3_s {α β γ δ : Type} (x : α) (y : β) (z : γ) (k : α → β → γ → Option δ) : bd3 (some (x, y, z)) k = k x y z := rfl
theorem bd5_s {α β γ δ ε ζ : Type} (x : α) (y : β) (z : γ) (v : δ) (w : ε) (k : α → β → γ → δ → ε → Option ζ) : bd5 (some (x, y, z, v, w)) k = k x y z v w := rfl
theorem cl0 : (0 : Int32).toNatClampNeg = 0 := by decide
theorem cl8 : (8 : Int32).toNatClampNeg = 8 := by decide
def s_nb (n : Nat) : Nat := (n + 72) / 64
/-- the text of n bytes with what SHA-256 puts behind it -/
def s_pd (m : Nat → Int32) (n : Nat) : Nat → Int32 := fun j => if j < n then m j else if j = n then -128 else if j < 64 * s_nb n - 8 then 0 else s_lb (lN n) (64 * s_nb n - 1 - j)
def s_sh (m : Nat → Int32) (n : Nat) : Nat → Int32 := s_it (s_pd m n) (s_nb n)
theorem s_ln_at (jl : Int64) (c : Nat → Int32) : ∀ i, i ≤ 8 → ∀ j, j < 64 → s_ln jl c i j = if 64 - i ≤ j then s_lb jl (63 - j) else c j
  | 0, _, j, hj => by rw [if_neg (by omega)]; rfl
  | i + 1, hi, j, hj => by
    unfold s_ln
    by_cases e : j = 63 - i
    · subst e
      rw [pk_us, if_pos (by omega)]
      congr 1
      omega
    · rw [pk_un e, s_ln_at jl c i (by omega) j hj]
      by_cases e2 : 64 - i ≤ j
      · rw [if_pos e2, if_pos (by omega)]
      · rw [if_neg e2, if_neg (by omega)]
theorem s_pd_it {m : Nat → Int32} {n q : Nat} (h : 64 * q ≤ n) : s_it (s_pd m n) q = s_it m q :=
  s_it_c q (fun j hj => by unfold s_pd; rw [if_pos (by omega)])
theorem s_out_c {st st' : Nat → Int32} (h : ∀ j, j < 8 → st j = st' j) (at_ : Nat) (c : Nat → Int32) : ∀ i, i ≤ 32 → s_out st at_ c i = s_out st' at_ c i
  | 0, _ => rfl
  | i + 1, hi => by
    unfold s_out s_ob
    rw [s_out_c h at_ c i (by omega), h (i / 4) (by omega)]
theorem sh_fin (fu : Nat) (hfu : 65 ≤ fu) (n1 : Nat) (hn1 : n1 < 2 ^ 31) (at_ : Nat) (ha : at_ + 32 ≤ n1) (m : Nat → Int32) (n : Nat) (u0 : Int32) (u1 : Int64) (st w ck to : Nat → Int32) (hi : s_inv m n u0 u1 st ck) :
    ∃ (st' w' ck' : Nat → Int32), (∀ j, j < 8 → st' j = s_sh m n j) ∧ x_Sh_finish fu u1 n1 (nI at_) u0 st w ck to = some (0, st', w', ck', s_out (s_sh m n) at_ to 32) := by
  obtain ⟨rfl, rfl, hst, hck⟩ := hi
  obtain ⟨q, hq⟩ : ∃ q, q = n / 64 := ⟨_, rfl⟩
  obtain ⟨fl, hfl⟩ : ∃ fl, fl = n % 64 := ⟨_, rfl⟩
  have eL : n = 64 * q + fl := by omega
  have hlt : fl < 64 := by omega
  rw [← hq] at hst hck
  rw [← hfl] at hck ⊢
  have hst2 : ∀ j, j < 8 → st j = s_it (s_pd m n) q j := fun j hj => by rw [s_pd_it (by omega)]; exact hst j hj
  have hf1 : ∀ j, j ≤ fl → upd ck fl (-128) j = s_pd m n (64 * q + j) := by
    intro j hj
    unfold s_pd
    by_cases e : j = fl
    · subst e
      rw [pk_us, if_neg (by omega), if_pos (by omega)]
    · rw [pk_un e, if_pos (by omega)]
      exact hck j (by omega)
  have hstep : x_Sh_finish fu (lN n) n1 (nI at_) (nI fl) st w ck to = if nI (fl + 1) ≤ (56 : Int32) then (xb_Sh_finish_40 fu (lN n) n1 (nI at_) (nI (fl + 1)) st w (upd ck fl (-128)) to) else (bd1 (x_Sh_fillWithZeros fu (nI (fl + 1)) (lN n) (64 : Int32) (upd ck fl (-128))) fun f3 => bd3 (x_Sh_mix fu (lN n) f3 (nI (fl + 1)) st w) fun e4 f5 f6 => xb_Sh_finish_40 fu (lN n) n1 (nI at_) e4 f5 f6 f3 to) := by
    unfold x_Sh_finish
    rw [gd_t (inb_nI (by omega) (by omega)), nI_clamp (n := fl) (by omega), nar80, nI_1]
    rfl
  rw [hstep]
  by_cases hc : fl + 1 ≤ 56
  · have hnb : s_nb n = q + 1 := by unfold s_nb; omega
    rw [if_pos (show nI (fl + 1) ≤ (56 : Int32) from nI_le (b := 56) (by omega) (by decide))]
    obtain ⟨w', hw⟩ := sh_tail fu hfu (lN n) n1 hn1 at_ ha (fl + 1) hc st w (upd ck fl (-128)) to
    have hs : ∀ j, j < 8 → s_cmp kc st (fun i => s_wd (s_ln (lN n) (s_zr (upd ck fl (-128)) (fl + 1) 56) 8) i) j = s_sh m n j := by
      intro j hj
      unfold s_sh
      rw [hnb]
      show _ = s_cmp kc (s_it (s_pd m n) q) _ j
      rw [s_cmp_w (w' := fun i => s_wd (fun j => s_pd m n (64 * q + j)) i) (fun i hi => s_wd_c (fun j hj => by
        rw [s_ln_at (lN n) _ 8 (by omega) j hj]
        by_cases e1 : 64 - 8 ≤ j
        · rw [if_pos e1]
          unfold s_pd
          rw [if_neg (by omega), if_neg (by omega), if_neg (by omega), hnb]
          congr 1
          omega
        · rw [if_neg e1]
          unfold s_zr
          by_cases e2 : fl + 1 ≤ j ∧ j < 56
          · rw [if_pos e2]
            unfold s_pd
            rw [if_neg (by omega), if_neg (by omega), if_pos (by omega)]
          · rw [if_neg e2]
            exact hf1 j (by omega)) hi)]
      exact s_cmp_s hst2 j hj
    refine ⟨_, w', s_ln (lN n) (s_zr (upd ck fl (-128)) (fl + 1) 56) 8, hs, ?_⟩
    rw [hw, s_out_c hs at_ to 32 (by omega)]
  · have hnb : s_nb n = q + 2 := by unfold s_nb; omega
    rw [if_neg (show ¬ nI (fl + 1) ≤ (56 : Int32) from nI_ge (a := 56) (by omega) (by omega))]
    rw [show x_Sh_fillWithZeros fu (nI (fl + 1)) (lN n) (64 : Int32) (upd ck fl (-128)) = some (s_zr (upd ck fl (-128)) (fl + 1) 64) from sh_fill fu (nI (fl + 1)) (lN n) 64 (by omega) (64 - (fl + 1)) fu (fl + 1) _ (by omega) (by omega)]
    rw [bd1_s, sh_mix fu hfu, bd3_s]
    have hs1 : ∀ j, j < 8 → s_cmp kc st (s_ld (s_zr (upd ck fl (-128)) (fl + 1) 64) w 16) j = s_it (s_pd m n) (q + 1) j := by
      intro j hj
      show _ = s_cmp kc (s_it (s_pd m n) q) _ j
      rw [s_cmp_w (w' := fun i => s_wd (fun j => s_pd m n (64 * q + j)) i) (fun i hi => by
        rw [s_ld_at _ _ 16 i hi]
        exact s_wd_c (fun j hj => by
          unfold s_zr
          by_cases e2 : fl + 1 ≤ j ∧ j < 64
          · rw [if_pos e2]
            unfold s_pd
            rw [if_neg (by omega), if_neg (by omega), if_pos (by omega)]
          · rw [if_neg e2]
            exact hf1 j (by omega)) hi)]
      exact s_cmp_s hst2 j hj
    obtain ⟨w', hw⟩ := sh_tail fu hfu (lN n) n1 hn1 at_ ha 0 (by omega) (s_cmp kc st (s_ld (s_zr (upd ck fl (-128)) (fl + 1) 64) w 16)) (s_sch (s_ld (s_zr (upd ck fl (-128)) (fl + 1) 64) w 16) 48) (s_zr (upd ck fl (-128)) (fl + 1) 64) to
    have hs : ∀ j, j < 8 → s_cmp kc (s_cmp kc st (s_ld (s_zr (upd ck fl (-128)) (fl + 1) 64) w 16)) (fun i => s_wd (s_ln (lN n) (s_zr (s_zr (upd ck fl (-128)) (fl + 1) 64) 0 56) 8) i) j = s_sh m n j := by
      intro j hj
      unfold s_sh
      rw [hnb]
      show _ = s_cmp kc (s_it (s_pd m n) (q + 1)) _ j
      rw [s_cmp_w (w' := fun i => s_wd (fun j => s_pd m n (64 * (q + 1) + j)) i) (fun i hi => s_wd_c (fun j hj => by
        rw [s_ln_at (lN n) _ 8 (by omega) j hj]
        by_cases e1 : 64 - 8 ≤ j
        · rw [if_pos e1]
          unfold s_pd
          rw [if_neg (by omega), if_neg (by omega), if_neg (by omega), hnb]
          congr 1
          omega
        · rw [if_neg e1]
          unfold s_zr
          rw [if_pos (by omega)]
          unfold s_pd
          rw [if_neg (by omega), if_neg (by omega), if_pos (by omega)]) hi)]
      exact s_cmp_s hs1 j hj
    refine ⟨_, w', s_ln (lN n) (s_zr (s_zr (upd ck fl (-128)) (fl + 1) 64) 0 56) 8, hs, ?_⟩
    show xb_Sh_finish_40 fu (lN n) n1 (nI at_) (nI 0) _ _ _ to = _
    rw [hw, s_out_c hs at_ to 32 (by omega)]
/-- Sha256.once(from, a, n, to, at): the answer of n bytes is written -/
theorem sh_once (fu : Nat) (hfu : 65 ≤ fu) (n1 : Nat) (hn1 : n1 < 2 ^ 31) (n4 : Nat) (hn4 : n4 < 2 ^ 31) (h1 : Nat → Int32) (a n : Nat) (hf2 : n < fu) (hb : a + n ≤ n1) (hfit : ∀ j, j < n → fits .byte (.int (h1 (a + j))) = true) (at_ : Nat) (ha : at_ + 32 ≤ n4) (u0 : Int32) (u1 : Int64) (u2 u3 u4 u5 : Nat → Int32) :
    ∃ (st' w' ck' : Nat → Int32), (∀ j, j < 8 → st' j = s_sh (fun j => h1 (a + j)) n j) ∧ x_Sh_once fu n1 h1 n4 (nI a) (nI n) (nI at_) u0 u1 u2 u3 u4 u5 = some (0, lN n, st', w', ck', s_out (s_sh (fun j => h1 (a + j)) n) at_ u5 32) := by
  have hi0 : s_inv (fun j => h1 (a + j)) 0 0 0 (va_cpy (fun j => tb_1.getD j 0) u2 0 0 8) u4 :=
    ⟨rfl, rfl, fun j hj => by rw [pk_cpy_in (by omega) (by omega)]; show tb_1.getD (0 + (j - 0)) 0 = tb_1.getD j 0; congr 1; omega, fun j hj => absurd hj (Nat.not_lt_zero _)⟩
  obtain ⟨v0, v1, st1, w1, ck1, hi1, hs1⟩ := sh_add fu hfu n1 hn1 h1 (fun j => h1 (a + j)) (a + n) hb n fu 0 a hf2 rfl (by omega) hfit (fun j hj => by rw [Nat.zero_add]) 0 0 (va_cpy (fun j => tb_1.getD j 0) u2 0 0 8) u3 u4 hi0
  rw [Nat.zero_add] at hi1
  obtain ⟨st2, w2, ck2, hs2, hf⟩ := sh_fin fu hfu n4 hn4 at_ ha (fun j => h1 (a + j)) n v0 v1 st1 w1 ck1 u5 hi1
  refine ⟨st2, w2, ck2, hs2, ?_⟩
  have hv1 : v1 = lN n := hi1.2.1
  subst hv1
  unfold x_Sh_once x_Sh_begin
  rw [gd_t (by decide), bnd_e, bd3_s, bnd_e, nI_add, cl0, cl8]
  unfold x_Sh_add
  rw [hs1, bd5_s, hf, bd5_s]
