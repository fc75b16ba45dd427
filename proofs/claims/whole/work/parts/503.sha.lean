-- congruence: a chunk's words and a state's eight words are all that counts
theorem s_ex_c {w w' : Nat → Int32} {t : Nat} (ht : 16 ≤ t) (h : ∀ j, j < t → w j = w' j) : s_ex w t = s_ex w' t := by
  unfold s_ex
  rw [h (t - 16) (by omega), h (t - 15) (by omega), h (t - 7) (by omega), h (t - 2) (by omega)]
theorem s_sch_c {w w' : Nat → Int32} (h : ∀ j, j < 16 → w j = w' j) : ∀ i j, j < 16 + i → s_sch w i j = s_sch w' i j
  | 0, j, hj => h j hj
  | i + 1, j, hj => by
    unfold s_sch
    by_cases e1 : j = 16 + i
    · subst e1
      rw [pk_us, pk_us]
      exact s_ex_c (by omega) (fun k hk => s_sch_c h i k hk)
    · rw [pk_un e1, pk_un e1]
      exact s_sch_c h i j (by omega)
theorem s_rds_c {kf w w' : Nat → Int32} (v : S8) : ∀ i, (∀ j, j < i → w j = w' j) → s_rds kf w v i = s_rds kf w' v i
  | 0, _ => rfl
  | i + 1, h => by
    unfold s_rds
    rw [h i (by omega), s_rds_c v i (fun j hj => h j (by omega))]
theorem s_cmp_w {kf st w w' : Nat → Int32} (h : ∀ j, j < 16 → w j = w' j) : s_cmp kf st w = s_cmp kf st w' := by
  unfold s_cmp
  rw [s_rds_c (s_st st) 64 (fun j hj => s_sch_c h 48 j hj)]
theorem s_st_c {st st' : Nat → Int32} (h : ∀ j, j < 8 → st j = st' j) : s_st st = s_st st' := by
  unfold s_st
  rw [h 0 (by omega), h 1 (by omega), h 2 (by omega), h 3 (by omega), h 4 (by omega), h 5 (by omega), h 6 (by omega), h 7 (by omega)]
theorem upd_c {f g : Nat → Int32} {k : Nat} {x : Int32} (h : ∀ j, j < 8 → f j = g j) : ∀ j, j < 8 → upd f k x j = upd g k x j := by
  intro j hj
  by_cases e : j = k
  · subst e; rw [pk_us, pk_us]
  · rw [pk_un e, pk_un e]; exact h j hj
theorem s_fin_c {st st' : Nat → Int32} (v : S8) (h : ∀ j, j < 8 → st j = st' j) : ∀ j, j < 8 → s_fin st v j = s_fin st' v j := by
  unfold s_fin
  rw [h 0 (by omega), h 1 (by omega), h 2 (by omega), h 3 (by omega), h 4 (by omega), h 5 (by omega), h 6 (by omega), h 7 (by omega)]
  exact upd_c (upd_c (upd_c (upd_c (upd_c (upd_c (upd_c (upd_c h)))))))
theorem s_cmp_s {kf st st' w : Nat → Int32} (h : ∀ j, j < 8 → st j = st' j) : ∀ j, j < 8 → s_cmp kf st w j = s_cmp kf st' w j := by
  unfold s_cmp
  rw [s_st_c h]
  exact s_fin_c _ h
theorem s_ld_at (ck w : Nat → Int32) : ∀ i j, j < i → s_ld ck w i j = s_wd ck j
  | 0, j, h => absurd h (Nat.not_lt_zero _)
  | i + 1, j, h => by
    unfold s_ld
    by_cases e1 : j = i
    · subst e1; rw [pk_us]
    · rw [pk_un e1]; exact s_ld_at ck w i j (by omega)
theorem m_ld_at (p : Nat → Int32) (o : Nat) (w : Nat → Int32) : ∀ i j, j < i → m_ld p o w i j = m_wd p o j
  | 0, j, h => absurd h (Nat.not_lt_zero _)
  | i + 1, j, h => by
    unfold m_ld
    by_cases e1 : j = i
    · subst e1; rw [pk_us]
    · rw [pk_un e1]; exact m_ld_at p o w i j (by omega)
theorem kmc : km = kc := by
  have h : tb_15 = tb_2 := by decide +kernel
  funext j
  unfold km kc
  rw [h]
/-- the state behind q chunks of the text m -/
def s_it (m : Nat → Int32) : Nat → Nat → Int32
  | 0 => fun j => tb_1.getD j 0
  | q + 1 => s_cmp kc (s_it m q) (fun i => s_wd (fun j => m (64 * q + j)) i)
theorem s_wd_c {c c' : Nat → Int32} {i : Nat} (h : ∀ j, j < 64 → c j = c' j) (hi : i < 16) : s_wd c i = s_wd c' i := by
  unfold s_wd
  rw [h (4 * i) (by omega), h (4 * i + 1) (by omega), h (4 * i + 2) (by omega), h (4 * i + 3) (by omega)]
theorem s_it_c {m m' : Nat → Int32} : ∀ q, (∀ j, j < 64 * q → m j = m' j) → s_it m q = s_it m' q
  | 0, _ => rfl
  | q + 1, h => by
    unfold s_it
    rw [s_it_c q (fun j hj => h j (by omega))]
    exact s_cmp_w (fun i hi => s_wd_c (fun j hj => h (64 * q + j) (by omega)) hi)
/-- the stream: L bytes of m are in: chunks of them in st, the rest in ck -/
def s_inv (m : Nat → Int32) (L : Nat) (u0 : Int32) (u1 : Int64) (st ck : Nat → Int32) : Prop :=
  u0 = nI (L % 64) ∧ u1 = lN L ∧ (∀ j, j < 8 → st j = s_it m (L / 64) j) ∧ ∀ j, j < L % 64 → ck j = m (64 * (L / 64) + j)
theorem cpk_nI {a b n n0 n1 : Nat} (h1 : a + n ≤ n0) (h2 : b + n ≤ n1) (h3 : n0 < 2 ^ 31) (h4 : n1 < 2 ^ 31) : cpk (nI a) (nI b) (nI n) n0 n1 = true :=
  decide_eq_true ⟨nI_pos (by omega), nI_pos (by omega), nI_pos (by omega), by rw [nI_clamp (by omega), nI_clamp (by omega)]; exact h1, by rw [nI_clamp (by omega), nI_clamp (by omega)]; exact h2⟩
theorem bfit_nI {f : Nat → Int32} {a n : Nat} (ha : a < 2 ^ 31) (hn : n < 2 ^ 31) (h : ∀ j, j < n → fits .byte (.int (f (a + j))) = true) : bfit f (nI a) (nI n) = true := by
  unfold bfit
  rw [nI_clamp ha, nI_clamp hn]
  exact List.all_eq_true.mpr (fun i hi => h i (List.mem_range.mp hi))
theorem sh_cpy {m h1 ck : Nat → Int32} {L pl fl part q : Nat} (e1 : L = 64 * q + fl) (hck : ∀ j, j < fl → ck j = m (64 * q + j)) (hm : ∀ j, j < part → m (L + j) = h1 (pl + j)) : ∀ j, j < fl + part → va_cpy h1 ck pl fl part j = m (64 * q + j) := by
  intro j hj
  by_cases h : j < fl
  · rw [pk_cpy_out (Or.inl h)]
    exact hck j h
  · rw [pk_cpy_in (by omega) hj, ← hm (j - fl) (by omega)]
    congr 1
    omega
theorem sh_add1 (fu : Nat) (hfu : 65 ≤ fu) (n1 : Nat) (hn1 : n1 < 2 ^ 31) (h1 m : Nat → Int32) (n L pl r : Nat) (hr : 0 < r) (hb : pl + r ≤ n1) (hL : L + r < 2 ^ 31) (hfit : ∀ j, j < r → fits .byte (.int (h1 (pl + j))) = true) (hm : ∀ j, j < r → m (L + j) = h1 (pl + j)) (u0 : Int32) (u1 : Int64) (st w ck : Nat → Int32) (hi : s_inv m L u0 u1 st ck) :
    ∃ (part : Nat) (u0' : Int32) (u1' : Int64) (st' w' ck' : Nat → Int32), 0 < part ∧ part ≤ r ∧ s_inv m (L + part) u0' u1' st' ck' ∧
      x_Sh_add_3 fu n1 h1 (n + 1) (nI (pl + r)) (nI pl) u0 u1 st w ck = x_Sh_add_3 fu n1 h1 n (nI (pl + r)) (nI (pl + part)) u0' u1' st' w' ck' := by
  obtain ⟨rfl, rfl, hst, hck⟩ := hi
  obtain ⟨q, hq⟩ : ∃ q, q = L / 64 := ⟨_, rfl⟩
  obtain ⟨fl, hfl⟩ : ∃ fl, fl = L % 64 := ⟨_, rfl⟩
  have eL : L = 64 * q + fl := by omega
  have hlt : fl < 64 := by omega
  rw [← hq] at hst hck
  rw [← hfl] at hck ⊢
  obtain ⟨part, hpart⟩ : ∃ part, part = if r < 64 - fl then r else 64 - fl := ⟨_, rfl⟩
  have hp0 : 0 < part ∧ part ≤ r ∧ fl + part ≤ 64 := by
    by_cases h : r < 64 - fl
    · rw [if_pos h] at hpart; omega
    · rw [if_neg h] at hpart; omega
  have e1 : (64 : Int32) - nI fl = nI (64 - fl) := pk_sub (a := 64) (by omega)
  have e2 : nI (pl + r) - nI pl = nI r := by
    rw [pk_sub (by omega)]
    congr 1
    omega
  have e3 : (if nI r < nI (64 - fl) then nI r else nI (64 - fl)) = nI part := by
    by_cases h : r < 64 - fl
    · rw [if_pos (nI_lt h (by omega)), hpart, if_pos h]
    · rw [if_neg (nI_nlt (by omega) (by omega)), hpart, if_neg h]
  have hstep : x_Sh_add_3 fu n1 h1 (n + 1) (nI (pl + r)) (nI pl) (nI fl) (lN L) st w ck = if nI (fl + part) = (64 : Int32) then (bd3 (x_Sh_mix fu (lN (L + part)) (va_cpy h1 ck pl fl part) (nI (fl + part)) st w) fun e8 f9 f10 => x_Sh_add_3 fu n1 h1 n (nI (pl + r)) (nI (pl + part)) e8 (lN (L + part)) f9 f10 (va_cpy h1 ck pl fl part)) else x_Sh_add_3 fu n1 h1 n (nI (pl + r)) (nI (pl + part)) (nI (fl + part)) (lN (L + part)) st w (va_cpy h1 ck pl fl part) := by
    show xb_Sh_add_3 fu n1 h1 (x_Sh_add_3 fu n1 h1 n) (nI (pl + r)) (nI pl) (nI fl) (lN L) st w ck = _
    unfold xb_Sh_add_3
    rw [if_neg (nI_ge (a := pl) (b := pl + r) (by omega) (by omega))]
    simp only [bnd, e1, e2, e3]
    rw [gd_t (cpk_nI (by omega) (by omega) (by omega) (by omega)), gd_t (bfit_nI (by omega) (by omega) (fun j hj => hfit j (by omega)))]
    rw [nI_clamp (n := pl) (by omega), nI_clamp (n := fl) (by omega), nI_clamp (n := part) (by omega), nI_add, nI_add, nI_l (by omega), lN_add]
    rfl
  rw [hstep]
  by_cases hfull : fl + part = 64
  · rw [if_pos (by rw [hfull]; rfl), sh_mix fu hfu]
    refine ⟨part, 0, lN (L + part), _, _, _, hp0.1, hp0.2.1, ⟨?_, rfl, ?_, ?_⟩, rfl⟩
    · rw [show (L + part) % 64 = 0 by omega]; rfl
    · intro j hj
      rw [show (L + part) / 64 = q + 1 by omega]
      show _ = s_cmp kc (s_it m q) _ j
      rw [s_cmp_w (w' := fun i => s_wd (fun j => m (64 * q + j)) i) (fun i hi => by
        rw [s_ld_at _ _ 16 i hi]
        exact s_wd_c (fun j hj => sh_cpy eL hck (fun j hj => hm j (by omega)) j (by omega)) hi)]
      exact s_cmp_s hst j hj
    · intro j hj
      rw [show (L + part) % 64 = 0 by omega] at hj
      exact absurd hj (Nat.not_lt_zero _)
  · rw [if_neg (show ¬ nI (fl + part) = (64 : Int32) from fun h => hfull ((nI_eq (by omega) (by decide)).mp (show nI (fl + part) = nI 64 from h)))]
    refine ⟨part, _, _, _, _, _, hp0.1, hp0.2.1, ⟨?_, rfl, ?_, ?_⟩, rfl⟩
    · rw [show (L + part) % 64 = fl + part by omega]
    · intro j hj
      rw [show (L + part) / 64 = q by omega]
      exact hst j hj
    · intro j hj
      rw [show (L + part) % 64 = fl + part by omega] at hj
      rw [show (L + part) / 64 = q by omega]
      exact sh_cpy eL hck (fun j hj => hm j (by omega)) j hj
/-- Sha256.add: the next r bytes of the text are in -/
theorem sh_add (fu : Nat) (hfu : 65 ≤ fu) (n1 : Nat) (hn1 : n1 < 2 ^ 31) (h1 m : Nat → Int32) (en : Nat) (hen : en ≤ n1) : ∀ (r n L pl : Nat), r < n → pl + r = en → L + r < 2 ^ 31 → (∀ j, j < r → fits .byte (.int (h1 (pl + j))) = true) → (∀ j, j < r → m (L + j) = h1 (pl + j)) → ∀ (u0 : Int32) (u1 : Int64) (st w ck : Nat → Int32), s_inv m L u0 u1 st ck →
    ∃ (u0' : Int32) (u1' : Int64) (st' w' ck' : Nat → Int32), s_inv m (L + r) u0' u1' st' ck' ∧ x_Sh_add_3 fu n1 h1 n (nI en) (nI pl) u0 u1 st w ck = some (u0', u1', st', w', ck') := by
  intro r
  induction r using Nat.strongRecOn with
  | _ r ih =>
    intro n L pl hn he hL hfit hm u0 u1 st w ck hi
    obtain ⟨n', rfl⟩ : ∃ n', n = n' + 1 := ⟨n - 1, by omega⟩
    by_cases hr : r = 0
    · subst hr
      refine ⟨u0, u1, st, w, ck, hi, ?_⟩
      show xb_Sh_add_3 fu n1 h1 (x_Sh_add_3 fu n1 h1 n') (nI en) (nI pl) u0 u1 st w ck = _
      unfold xb_Sh_add_3
      rw [if_pos (nI_le (by omega) (by omega))]
    · subst he
      obtain ⟨part, v0, v1, st1, w1, ck1, hp0, hp1, hi1, hs⟩ := sh_add1 fu hfu n1 hn1 h1 m n' L pl r (by omega) hen hL hfit hm u0 u1 st w ck hi
      rw [hs]
      obtain ⟨y0, y1, st2, w2, ck2, hi2, hs2⟩ := ih (r - part) (by omega) n' (L + part) (pl + part) (by omega) (by omega) (by omega) (fun j hj => by rw [Nat.add_assoc]; exact hfit _ (by omega)) (fun j hj => by rw [Nat.add_assoc, Nat.add_assoc]; exact hm _ (by omega)) v0 v1 st1 w1 ck1 hi1
      refine ⟨y0, y1, st2, w2, ck2, ?_, hs2⟩
      rw [show L + r = L + part + (r - part) by omega]
      exact hi2
