-- the class's machine: hashes, one op
set_option maxHeartbeats 1000000 in
theorem s_out_at (st : Nat → Int32) (a : Nat) (c : Nat → Int32) : ∀ i j, s_out st a c i j = if a ≤ j ∧ j < a + i then s_ob st (j - a) else c j
  | 0, j => by rw [if_neg (by omega)]; rfl
  | i + 1, j => by
    unfold s_out
    by_cases e : j = a + i
    · subst e
      rw [pk_us, if_pos (by omega), Nat.add_sub_cancel_left]
    · rw [pk_un e, s_out_at st a c i j]
      by_cases q : a ≤ j ∧ j < a + i
      · rw [if_pos q, if_pos (by omega)]
      · rw [if_neg q, if_neg (by omega)]
abbrev T6s : Type := Int32 × Int64 × (Nat → Int32) × (Nat → Int32) × (Nat → Int32) × (Nat → Int32)
set_option maxHeartbeats 1000000 in
theorem v_Sh_once_e (fu : Nat) (hfu : 1600 ≤ fu) (n1 : Nat) (hn1 : n1 < 2 ^ 30) {a N o : Nat} (hN : N < 1600) (ha : a + N ≤ n1) (ho : o + 32 ≤ n1) (u0 : Int32) (u1 : Int64) (u2 u3 u4 u5 : Nat → Int32) (hf : ftB u5) : ok (x_Sh_once_e41 fu n1 (nI a) (nI N) (nI o) u0 u1 u2 u3 u4 u5) (fun t : T6s => ∀ j, t.2.2.2.2.2 j = if o ≤ j ∧ j < o + 32 then s_ob (s_sh (fun i => u5 (a + i)) N) (j - o) else u5 j) := by
  obtain ⟨st', w', ck', -, e⟩ := sh_once fu (by omega) n1 (by omega) n1 (by omega) u5 a N (by omega) ha (fun j _ => hf _) o ho u0 u1 u2 u3 u4 u5
  exact ⟨_, e, fun j => s_out_at _ _ _ _ _⟩
/-- bytes written at fr, 32 at most -/
def wr2 (D D' : Nat → Int32) (fr : Nat) (L : List Int32) : Prop := L.length ≤ 32 ∧ bl D' fr L.length = L ∧ (∀ j, j < fr → D' j = D j) ∧ ftB D'
set_option maxHeartbeats 1000000 in
theorem s_ob_f (st : Nat → Int32) (j : Nat) : fits .byte (.int (s_ob st j)) = true := pk_fb _
set_option maxHeartbeats 1000000 in
theorem ftB_r {D D' : Nat → Int32} (hD : ftB D) {a n : Nat} {g : Nat → Int32} (hg : ∀ j, fits .byte (.int (g j)) = true) (h : ∀ j, D' j = if a ≤ j ∧ j < a + n then g (j - a) else D j) : ftB D' := fun j => by
  rw [h j]
  split
  · exact hg _
  · exact hD j
set_option maxHeartbeats 1000000 in
theorem bl_r {D D' : Nat → Int32} {a n : Nat} {g : Nat → Int32} (h : ∀ j, D' j = if a ≤ j ∧ j < a + n then g (j - a) else D j) : bl D' a n = bl g 0 n := bl_c _ _ _ fun i hi => by
  rw [h (a + i), if_pos (by omega), Nat.add_sub_cancel_left, Nat.zero_add]
set_option maxHeartbeats 1000000 in
theorem r_ob_f (v : S5) (k : Nat) : fits .byte (.int (r_ob v k)) = true := pk_fb _
set_option maxHeartbeats 1000000 in
theorem wr2_r {D E D' : Nat → Int32} (hE : ftB E) {a n : Nat} (hn : n ≤ 32) {g : Nat → Int32} (hg : ∀ j, fits .byte (.int (g j)) = true) (hDE : ∀ j, j < a → E j = D j) (h : ∀ j, D' j = if a ≤ j ∧ j < a + n then g (j - a) else E j) : wr2 D D' a (bl g 0 n) := by
  refine ⟨by rw [bl_len]; exact hn, by rw [bl_len]; exact bl_r h, fun j hj => by rw [h j, if_neg (by omega)]; exact hDE j hj, ftB_r hE hg h⟩
set_option maxHeartbeats 1000000 in
/-- bytes were pushed -/
theorem maQ_w {W : Option (Stk × Stk × Nat)} {A S : Stk} {ops fr : Nat} {D D' m m' : Nat → Int32} {L : List Int32} {h f : Int32} (hfr : 2064 ≤ fr) (hS : stH D fr m S) (hl : S.length + 1 + A.length ≤ 202) (hW : W = some (L :: S, A, ops)) (hw : wr2 D D' fr L) (h1 : h = nI (S.length + 1)) (h2 : f = nI (fr + L.length)) (h3 : m' = upd m S.length (nI (256 * fr + L.length))) : maQ W A ops fr D 1 h f D' m' := by
  obtain ⟨w0, w1, w2, w3⟩ := hw
  have hk : ∀ j, j < fr → D' j = D j := fun j hj => w2 j hj
  refine ⟨w3, hk, Or.inr ⟨L :: S, fr + L.length, hW, rfl, h1, h2, by omega, ?_, hl⟩⟩
  rw [h3]
  exact stH_p (stH_k (by omega) (fun j _ h => hk j h) hS (fun _ _ => rfl)) ⟨fr, rfl, by omega, w1, Nat.le_refl _, Or.inr (by omega)⟩ rfl
abbrev T14 : Type := Int32 × Int32 × Int32 × Int32 × Int64 × (Nat → Int32) × (Nat → Int32) × (Nat → Int32) × (Nat → Int32) × (Nat → Int32) × (Nat → Int32) × (Nat → Int32) × (Nat → Int32) × (Nat → Int32)
def maQ14 (W : Option (Stk × Stk × Nat)) (A : Stk) (ops fr : Nat) (D0 : Nat → Int32) (x : T14) : Prop := maQ W A ops fr D0 x.1 x.2.1 x.2.2.1 x.2.2.2.2.2.2.2.2.2.2.2.2.1 x.2.2.2.2.2.2.2.2.2.2.2.2.2
set_option maxHeartbeats 1000000 in
theorem c_dg186 (fu : Nat) (j2 j3 j4 j5 j7 j8 j9 : Int32) {A S : Stk} {ops fr : Nat} {D D' m : Nat → Int32} {L : List Int32} (hfr : 2064 ≤ fr) (hfr2 : fr + 32 ≤ 14928) (hS : stH D fr m S) (hl : S.length + 1 + A.length ≤ 202) (hw : wr2 D D' fr L) {k : Nat} (hk : k < 256) (hL : L.length = if k = 166 ∨ k = 169 then 20 else 32) (u2 : Int32) (u3 : Int64) (u4 u5 u6 u7 u8 u9 u10 : Nat → Int32) : ok (xb_Ma_digestTop_186 fu j2 j3 j4 j5 j7 j8 j9 (nI k) (nI S.length) (nI fr) u2 u3 u4 u5 u6 u7 u8 u9 u10 D' m) (maQ14 (some (L :: S, A, ops)) A ops fr D) := by
  have P : ∀ y0 : Nat, y0 = L.length → ok (xb_Ma_digestTop_207 fu j2 j3 j4 j5 j7 j8 j9 (nI y0) (nI S.length) (nI fr) u2 u3 u4 u5 u6 u7 u8 u9 u10 D' m) (maQ14 (some (L :: S, A, ops)) A ops fr D) := fun y0 hy => by
    have := hw.1
    subst hy
    unfold xb_Ma_digestTop_207
    refine ok_bnd (ok_bn (h_or (by omega) (by omega)) (ok_bd2 (v_Ma_push fu j2 j3 j4 j5 (nI fr) j7 j8 j9 _ m (show S.length < 204 by omega)) (fun e1 f2 w => ok_bn (nI_add _ _) (ok_some ?_))))
    exact maQ_w hfr hS hl rfl hw w.1 rfl w.2
  unfold xb_Ma_digestTop_186 xb_Ma_digestTop_200
  refine ok_op (k := 166) hk (by decide) rfl (fun e => P 20 (by rw [hL, if_pos (Or.inl e)])) (fun n1 => ?_)
  refine ok_op (k := 169) hk (by decide) rfl (fun e => P 20 (by rw [hL, if_pos (Or.inr e)])) (fun n2 => P 32 (by rw [hL, if_neg (by omega)]))
set_option maxHeartbeats 1000000 in
theorem v_Ma_digestTop (fu : Nat) (hfu : 1600 ≤ fu) (j2 j3 j4 j5 j7 j8 j9 : Int32) (sg : List Int32 → List Int32 → Bool) {D m o : Nat → Int32} {fr : Nat} {S A : Stk} (ops : Nat) (h : kM D fr m o S A) {k : Nat} (hk : 165 < k ∧ k < 256 ∧ ¬ (172 ≤ k ∧ k ≤ 175)) (u2 : Int32) (u3 : Int64) (u4 u5 u6 u7 u8 u9 u10 : Nat → Int32) : ok (x_Ma_digestTop fu j2 j3 j4 j5 j7 j8 j9 (nI k) (nI S.length) (nI fr) u2 u3 u4 u5 u6 u7 u8 u9 u10 D m) (maQ14 (opS sg hsF k S A ops) A ops fr D) := by
  have hD := h.2.2.1
  have hl := h.2.2.2.2.1
  have hfr := h.2.2.2.2.2
  have no : ¬ (k = 166 ∨ k = 168 ∨ k = 169 ∨ k = 170) → opS sg hsF k S A ops = none := fun hn => by
    unfold opS
    rw [if_neg (show ¬ (k = 79 ∨ 81 ≤ k ∧ k ≤ 96) by omega), if_neg (show ¬ k = 97 by omega), if_neg (show ¬ k = 105 by omega), if_neg (show ¬ k = 107 by omega), if_neg (show ¬ k = 108 by omega), if_neg (show ¬ k = 109 by omega), if_neg (show ¬ k = 110 by omega), if_neg (show ¬ k = 115 by omega), if_neg (show ¬ k = 116 by omega), if_neg (show ¬ k = 117 by omega), if_neg (show ¬ k = 118 by omega), if_neg (show ¬ k = 119 by omega), if_neg (show ¬ k = 120 by omega), if_neg (show ¬ (k = 121 ∨ k = 122) by omega), if_neg (show ¬ k = 123 by omega), if_neg (show ¬ k = 124 by omega), if_neg (show ¬ k = 125 by omega), if_neg (show ¬ k = 130 by omega), if_neg (show ¬ k = 135 by omega), if_neg (show ¬ k = 136 by omega), if_neg (show ¬ (139 ≤ k ∧ k ≤ 146) by omega), if_neg (show ¬ (147 ≤ k ∧ k ≤ 164) by omega), if_neg (show ¬ k = 165 by omega), if_neg hn, if_neg (show ¬ k = 172 by omega), if_neg (show ¬ k = 173 by omega), if_neg (show ¬ k = 174 by omega), if_neg (show ¬ k = 175 by omega)]
  unfold x_Ma_digestTop
  cases S with
  | nil =>
    refine ok_t (by decide) (ok_some (maQ_0 hD ?_))
    by_cases q : k = 166 ∨ k = 168 ∨ k = 169 ∨ k = 170
    · rcases q with rfl | rfl | rfl | rfl <;> rfl
    · exact no q
  | cons x S =>
    replace hl : S.length + 1 + A.length ≤ 200 := hl
    refine ok_f (fun e => by have := (nI_ltI (a := S.length + 1) (b := 1) (by omega) (by omega)).mp e; omega) ?_
    obtain ⟨p, a1, a2, a3, a4, a5⟩ := h.1.1
    have G : (k = 166 ∨ k = 168 ∨ k = 169 ∨ k = 170) → ok (xb_Ma_digestTop_31 fu j2 j3 j4 j5 j7 j8 j9 (nI k) (nI (S.length + 1)) (nI fr) u2 u3 u4 u5 u6 u7 u8 u9 u10 D m) (maQ14 (opS sg hsF k (x :: S) A ops) A ops fr D) := fun q => by
      have eW : opS sg hsF k (x :: S) A ops = some (hsF k x :: S, A, ops) := by rcases q with rfl | rfl | rfl | rfl <;> rfl
      rw [eW]
      unfold xb_Ma_digestTop_31
      refine ok_bn (e' := nI S.length) (nI_sb (a := S.length + 1) (b := 1) (by omega)) (ok_gd (inb_nI (by omega) (by decide)) ?_)
      rw [nI_clamp (n := S.length) (by omega), a1]
      refine ok_bnd (ok_bd1 (v_place fu (by omega) a2) (fun v3 e3 => ok_gd (inb_nI (by omega) (by decide)) (ok_bnd (ok_bd1 (v_length fu (by omega) a2) (fun v5 e5 => ?_)))))
      subst e3 e5
      have ex : ∀ j, j < x.length → D (p + j) = fnL x j := fun j hj => by
        have := bl_get D 0 x.length p j hj
        rw [a3] at this
        exact this.symm
      refine ok_op (k := 166) hk.2.1 (by decide) rfl (fun e => ?_) (fun n1 => ?_)
      · refine ok_bd5 (v_Ri_once fu hfu 14928 (by decide) (a := p) (N := x.length) (o := fr) (by omega) (by omega) (by omega) u7 u8 u9 u10 D) (fun f1 f2 f3 f4 f5 w => ?_)
        replace w : ∀ j, f5 j = if fr ≤ j ∧ j < fr + 20 then r_ob (r_it (fun j => D (p + j)) x.length (s_nb x.length)) (j - fr) else D j := w
        subst e
        rw [r_it_c ex] at w
        have hL : hsF 166 x = bl (r_ob (r_it (fnL x) x.length (s_nb x.length))) 0 20 := rfl
        have hw : wr2 D f5 fr (hsF 166 x) := by
          rw [hL]
          exact wr2_r hD (by decide) (r_ob_f (r_it (fnL x) x.length (s_nb x.length))) (fun _ _ => rfl) w
        unfold xb_Ma_digestTop_119
        refine ok_f (by decide) (ok_f (by decide) ?_)
        exact c_dg186 fu j2 j3 j4 j5 j7 j8 j9 hfr.1 hfr.2 h.1.2 (by omega) hw (by decide) (by rw [hL, bl_len]; rfl) u2 u3 u4 u5 u6 f1 f2 f3 f4
      · refine ok_bd6 (v_Sh_once_e fu hfu 14928 (by decide) (a := p) (N := x.length) (o := fr) (by omega) (by omega) (by omega) u2 u3 u4 u5 u6 D hD) (fun e6 e7 f8 f9 f10 f11 w => ?_)
        replace w : ∀ j, f11 j = if fr ≤ j ∧ j < fr + 32 then s_ob (s_sh (fun j => D (p + j)) x.length) (j - fr) else D j := w
        rw [s_sh_c ex] at w
        have hD1 : ftB f11 := ftB_r hD (s_ob_f (s_sh (fnL x) x.length)) w
        have e1 : ∀ j, j < 32 → f11 (fr + j) = s_ob (s_sh (fnL x) x.length) j := fun j hj => by rw [w, if_pos (by omega), Nat.add_sub_cancel_left]
        unfold xb_Ma_digestTop_119
        refine ok_op (k := 169) hk.2.1 (by decide) rfl (fun e => ?_) (fun n2 => ?_)
        · refine ok_bd5 (v_Ri_once fu hfu 14928 (by decide) (a := fr) (N := 32) (o := fr) (by decide) (by omega) (by omega) u7 u8 u9 u10 f11) (fun f1 f2 f3 f4 f5 w' => ?_)
          replace w' : ∀ j, f5 j = if fr ≤ j ∧ j < fr + 20 then r_ob (r_it (fun j => f11 (fr + j)) 32 (s_nb 32)) (j - fr) else f11 j := w'
          subst e
          rw [r_it_c e1] at w'
          have hL : hsF 169 x = bl (r_ob (r_it (s_ob (s_sh (fnL x) x.length)) 32 (s_nb 32))) 0 20 := rfl
          have hw : wr2 D f5 fr (hsF 169 x) := by
            rw [hL]
            exact wr2_r hD1 (by decide) (r_ob_f (r_it (s_ob (s_sh (fnL x) x.length)) 32 (s_nb 32))) (fun j hj => by rw [w j, if_neg (by omega)]) w'
          exact c_dg186 fu j2 j3 j4 j5 j7 j8 j9 hfr.1 hfr.2 h.1.2 (by omega) hw (by decide) (by rw [hL, bl_len]; rfl) e6 e7 f8 f9 f10 f1 f2 f3 f4
        · refine ok_op (k := 170) hk.2.1 (by decide) rfl (fun e => ?_) (fun n3 => ?_)
          · refine ok_bd6 (v_Sh_once_e fu hfu 14928 (by decide) (a := fr) (N := 32) (o := fr) (by decide) (by omega) (by omega) e6 e7 f8 f9 f10 f11 hD1) (fun g6 g7 g8 g9 g10 g11 w' => ?_)
            replace w' : ∀ j, g11 j = if fr ≤ j ∧ j < fr + 32 then s_ob (s_sh (fun j => f11 (fr + j)) 32) (j - fr) else f11 j := w'
            subst e
            rw [s_sh_c e1] at w'
            have hL : hsF 170 x = bl (dbl (fnL x) x.length) 0 32 := rfl
            have hw : wr2 D g11 fr (hsF 170 x) := by
              rw [hL]
              exact wr2_r hD1 (by decide) (dbl_f (fnL x) x.length) (fun j hj => by rw [w j, if_neg (by omega)]) w'
            exact c_dg186 fu j2 j3 j4 j5 j7 j8 j9 hfr.1 hfr.2 h.1.2 (by omega) hw (by decide) (by rw [hL, bl_len]; rfl) g6 g7 g8 g9 g10 u7 u8 u9 u10
          · have e : k = 168 := by omega
            subst e
            have hL : hsF 168 x = bl (s_ob (s_sh (fnL x) x.length)) 0 32 := rfl
            have hw : wr2 D f11 fr (hsF 168 x) := by
              rw [hL]
              exact wr2_r hD (by decide) (s_ob_f (s_sh (fnL x) x.length)) (fun _ _ => rfl) w
            exact c_dg186 fu j2 j3 j4 j5 j7 j8 j9 hfr.1 hfr.2 h.1.2 (by omega) hw (by decide) (by rw [hL, bl_len]; rfl) e6 e7 f8 f9 f10 u7 u8 u9 u10
    refine ok_op (k := 166) hk.2.1 (by decide) rfl (fun e => G (Or.inl e)) (fun n1 => ?_)
    by_cases c1 : k < 168
    · exact ok_t ((nI_ltI (b := 168) (by omega) (by omega)).mpr c1) (ok_some (maQ_0 hD (no (by omega))))
    refine ok_f (fun e => c1 ((nI_ltI (b := 168) (by omega) (by omega)).mp e)) ?_
    by_cases c2 : k ≤ 170
    · exact ok_t ((nI_leI (b := 170) (by omega) (by omega)).mpr c2) (G (by omega))
    · exact ok_f (fun e => c2 ((nI_leI (b := 170) (by omega) (by omega)).mp e)) (ok_some (maQ_0 hD (no (by omega))))
