-- the reference's machine: hashes, rolls
set_option maxHeartbeats 400000 in
theorem r_it_c {m m' : Nat → Int32} {N : Nat} (h : ∀ j, j < N → m j = m' j) (q : Nat) : r_it m N q = r_it m' N q := by
  have e0 : r_p0 m N = r_p0 m' N := by
    funext j
    unfold r_p0
    by_cases g : j < N
    · rw [if_pos g, if_pos g, h j g]
    · rw [if_neg g, if_neg g]
  have e1 : r_pd m N = r_pd m' N := by
    funext j
    unfold r_pd
    rw [e0]
  have e2 : ∀ q, r_w m N q = r_w m' N q := fun q => by
    funext i
    unfold r_w
    rw [e1]
  induction q with
  | zero => rfl
  | succ q ih =>
    show r_cb (r_it m N q) (r_ln 0 tb_8 tb_9 tb_10 (r_w m N q) (r_it m N q) 80) (r_ln 4 tb_11 tb_12 tb_13 (r_w m N q) (r_it m N q) 80) = r_cb (r_it m' N q) (r_ln 0 tb_8 tb_9 tb_10 (r_w m' N q) (r_it m' N q) 80) (r_ln 4 tb_11 tb_12 tb_13 (r_w m' N q) (r_it m' N q) 80)
    rw [ih, e2 q]
def fnL (L : List Int32) : Nat → Int32 := fun i => L.getD i 0
set_option maxHeartbeats 400000 in
theorem bl_fn : ∀ L : List Int32, bl (fnL L) 0 L.length = L := by
  intro L
  have A : ∀ (L : List Int32) (p : Nat → Int32) (a : Nat), (∀ i, i < L.length → p (a + i) = L.getD i 0) → bl p a L.length = L := by
    intro L
    induction L with
    | nil => intro p a _; rfl
    | cons x L ih =>
      intro p a h
      show p a :: bl p (a + 1) L.length = x :: L
      rw [ih p (a + 1) (fun i hi => by rw [show a + 1 + i = a + (i + 1) from by omega, h (i + 1) (by show i + 1 < L.length + 1; omega)]; rfl), show p a = x from h 0 (by show 0 < L.length + 1; omega)]
  exact A L (fnL L) 0 fun i _ => by rw [Nat.zero_add]; rfl
set_option maxHeartbeats 400000 in
theorem fnL_bl (p : Nat → Int32) {a n i : Nat} (hi : i < n) : fnL (bl p a n) i = p (a + i) := bl_get p 0 n a i hi
/-- what the ops 166, 168, 169, 170 make of a thing -/
def hsF (o : Nat) (L : List Int32) : List Int32 := if o = 166 then bl (r_ob (r_it (fnL L) L.length (s_nb L.length))) 0 20 else if o = 168 then bl (s_ob (s_sh (fnL L) L.length)) 0 32 else if o = 169 then bl (r_ob (r_it (s_ob (s_sh (fnL L) L.length)) 32 (s_nb 32))) 0 20 else bl (dbl (fnL L) L.length) 0 32
abbrev T8h : Type := Int32 × (Nat → Int32) × (Nat → Int32) × (Nat → Int32) × (Nat → Int32) × (Nat → Int32) × (Nat → Int32) × (Nat → Int32)
def op8 (W : Option (Stk × Stk × Nat)) (z0 : Nat → Int32) (x : T8h) : Prop := opQ W z0 x.1 x.2.1 x.2.2.2.2.2.2.1 x.2.2.2.2.2.2.2
set_option maxHeartbeats 400000 in
theorem l_hs132 (fu : Nat) {z th sz z3 : Nat → Int32} {S0 S A : Stk} {ops l : Nat} (h : rM z th sz S0 A ops) (hS : stU th sz 0 S) (hl : S.length + 1 + A.length ≤ 202) (hz : z3 = upd z 9 (nI S.length)) (hl2 : l ≤ 32) (u1 u2 u3 u4 : Nat → Int32) (hf : ∀ j, j < l → fits .byte (.int (u3 j)) = true) {L : List Int32} (hL : L = bl u3 0 l) : ok (xb_M_hashed_132 fu (nI l) (0 : Int32) z3 u1 u2 u3 u4 th sz) (op8 (some (L :: S, A, ops)) z) := by
  subst hL hz
  unfold xb_M_hashed_132
  rw [show (0 : Int32) = nI 0 from rfl]
  refine ok_bd3 (v_push fu 32 (by decide) u3 (upd z 9 (nI S.length)) th sz h.2.2.2.1 (a := 0) (l := l) (d := S.length) (by omega) (by omega) (by omega) pk_us (fun i hi => by rw [Nat.zero_add]; exact hf i hi)) (fun f1 f2 f3 q => ok_some ?_)
  obtain ⟨q1, q2⟩ := q
  replace q1 : f1 = upd (upd z 9 (nI S.length)) 9 (nI (S.length + 1)) := q1
  replace q2 : wS th sz S.length (bl u3 0 l) f2 f3 := q2
  refine ⟨?_, q2.2.2.2, Or.inr ⟨_, _, _, rfl, rfl, rM_w h hS hl q2 ?_ ?_ ?_⟩⟩
  · show zf z f1
    rw [q1]
    exact zf_t (zf_9 _) (zf_9 _)
  · show f1 9 = _
    rw [q1, pk_us]
  · show f1 10 = _
    rw [q1, pk_un (by decide), pk_un (by decide)]
  · show f1 11 = _
    rw [q1, pk_un (by decide), pk_un (by decide)]
def hdS (o : Nat) (S A : Stk) (ops : Nat) : Option (Stk × Stk × Nat) := match S with
  | x :: S => some (hsF o x :: S, A, ops)
  | _ => none
set_option maxHeartbeats 400000 in
theorem v_hashed (fu : Nat) (hfu : 1600 ≤ fu) {z th sz : Nat → Int32} {S A : Stk} {ops o : Nat} (h : rM z th sz S A ops) (ho : o = 166 ∨ o = 168 ∨ o = 169 ∨ o = 170) (u1 u2 u3 u4 : Nat → Int32) : ok (x_M_hashed fu (nI o) z u1 u2 u3 u4 th sz) (op8 (hdS o S A ops) z) := by
  unfold x_M_hashed
  have hl := h.2.2.2.2.1
  refine ok_bd1 (v_has fu z (n := 1) (by omega) (by decide) h.1.1) (fun v hv => ok_tf hv (fun q => ok_some ?_) (fun q => ?_))
  · have e : S = [] := List.eq_nil_of_length_eq_zero (by omega)
    rw [e]
    exact ⟨zf_r _, h.2.2.2.1, Or.inl ⟨rfl, rfl⟩⟩
  · cases S with
    | nil => exact absurd q (by decide)
    | cons x S =>
      replace hl : S.length + 1 + A.length ≤ 202 := hl
      have h9 : z 9 = nI (S.length + 1) := h.1.1
      have hS := h.2.1.2
      obtain ⟨s1, s2, s3⟩ := h.2.1.1
      rw [Nat.zero_add] at s1 s3
      have hT := h.2.2.2.1
      have e9 : (upd z 9 (nI S.length)) 9 = nI S.length := pk_us
      rw [h9, show nI (S.length + 1) - (1 : Int32) = nI S.length from by rw [show (1 : Int32) = nI 1 from rfl, nI_sb (by omega), Nat.add_sub_cancel]]
      refine ok_bnd (ok_bnd ?_)
      rw [e9, nI_clamp (n := S.length) (by omega), s1]
      refine ok_bn (pk_mul 256 _) (ok_gd (inb_nI (by omega) (by decide)) (ok_bnd ?_))
      have hm : ∀ i, i < x.length → th (256 * S.length + i) = fnL x i := fun i hi => by
        rw [← s3, fnL_bl th hi]
      have fx : ∀ (p : Nat → Int32) n k, fits .byte (.int (s_ob (s_sh p n) k)) = true := fun p n k => pk_fb _
      have fr : ∀ (p : Nat → Int32) n m k, fits .byte (.int (r_ob (r_it p n m) k)) = true := fun p n m k => pk_fb _
      have eo : ∀ k, k < 200 → (nI o = nI k ↔ o = k) := fun k hk => nI_eq (by omega) (by omega)
      have E125 : ∀ (u1 u2 u3 u4 : Nat → Int32), (∀ j, j < 20 → fits .byte (.int (u3 j)) = true) → hsF o x = bl u3 0 20 → (o = 166 ∨ o = 169) → ok (xb_M_hashed_105 fu (nI o) (upd z 9 (nI S.length)) u1 u2 u3 u4 th sz) (op8 (some (hsF o x :: S, A, ops)) z) := fun u1 u2 u3 u4 hf hL hc => by
        unfold xb_M_hashed_105 xb_M_hashed_125
        have F := l_hs132 fu h hS hl rfl (l := 20) (by decide) u1 u2 u3 u4 hf hL
        by_cases c : o = 166
        · exact ok_t ((eo 166 (by decide)).mpr c) F
        · exact ok_f (fun w => c ((eo 166 (by decide)).mp w)) (ok_t ((eo 169 (by decide)).mpr (hc.resolve_left c)) F)
      have E32 : ∀ (u1 u2 u3 u4 : Nat → Int32), (∀ j, j < 32 → fits .byte (.int (u3 j)) = true) → hsF o x = bl u3 0 32 → (o = 168 ∨ o = 170) → ok (xb_M_hashed_105 fu (nI o) (upd z 9 (nI S.length)) u1 u2 u3 u4 th sz) (op8 (some (hsF o x :: S, A, ops)) z) := fun u1 u2 u3 u4 hf hL hc => by
        unfold xb_M_hashed_105
        exact ok_f (fun w => by have := (eo 166 (by decide)).mp w; omega) (ok_f (fun w => by have := (eo 169 (by decide)).mp w; omega) (l_hs132 fu h hS hl rfl (l := 32) (by decide) u1 u2 u3 u4 hf hL))
      by_cases c1 : o = 166
      · refine ok_t ((eo 166 (by decide)).mpr c1) (ok_bd2 (v_M_ripemd fu hfu _ 104448 th (by decide) (by omega) (by omega) u3 u4 (fun j _ => hT _)) (fun f12 f13 hd => ?_))
        replace hd : ∀ j, f12 j = if j < 20 then r_ob (r_it (fun i => th (256 * S.length + i)) x.length (s_nb x.length)) j else u3 j := hd
        rw [r_it_c (m' := fnL x) hm] at hd
        refine E125 u1 u2 f12 f13 (fun j hj => by rw [hd j, if_pos hj]; exact fr _ _ _ _) ?_ (Or.inl c1)
        unfold hsF
        rw [if_pos c1]
        exact bl_c 20 0 0 fun i hi => by rw [Nat.zero_add, hd i, if_pos hi]
      refine ok_f (fun w => c1 ((eo 166 (by decide)).mp w)) (ok_bd4 (v_M_sha fu hfu _ 104448 th (by decide) (by omega) (by omega) u1 u2 u3 u4 (fun j _ => hT _)) (fun f6 f7 f8 f9 hd => ?_))
      replace hd : ∀ j, f8 j = if j < 32 then s_ob (s_sh (fun i => th (256 * S.length + i)) x.length) j else u3 j := hd
      rw [s_sh_c (m' := fnL x) hm] at hd
      rw [show (0 : Int32) = nI 0 from rfl, show (32 : Int32) = nI 32 from rfl]
      by_cases c2 : o = 169
      · refine ok_t ((eo 169 (by decide)).mpr c2) (ok_bd2 (v_M_ripemd_f1hash fu hfu _ (a := 0) (N := 32) (by decide) (by decide) f8 f9 (fun j hj => by rw [Nat.zero_add, hd j, if_pos hj]; exact fx _ _ _)) (fun f10 f11 hd2 => ?_))
        replace hd2 : ∀ j, f10 j = if j < 20 then r_ob (r_it (fun i => f8 (0 + i)) 32 (s_nb 32)) j else f8 j := hd2
        rw [r_it_c (m' := s_ob (s_sh (fnL x) x.length)) (fun j hj => by rw [Nat.zero_add, hd j, if_pos hj])] at hd2
        unfold xb_M_hashed_87
        refine ok_f (fun w => by have := (eo 170 (by decide)).mp w; omega) (E125 f6 f7 f10 f11 (fun j hj => by rw [hd2 j, if_pos hj]; exact fr _ _ _ _) ?_ (Or.inr c2))
        unfold hsF
        rw [if_neg c1, if_neg (by omega), if_pos c2]
        exact bl_c 20 0 0 fun i hi => by rw [Nat.zero_add, hd2 i, if_pos hi]
      refine ok_f (fun w => c2 ((eo 169 (by decide)).mp w)) ?_
      unfold xb_M_hashed_87
      by_cases c3 : o = 170
      · refine ok_t ((eo 170 (by decide)).mpr c3) (ok_bd4 (v_M_sha_f1hash fu hfu _ (a := 0) (N := 32) (by decide) (by decide) f6 f7 f8 f9 (fun j hj => by rw [Nat.zero_add, hd j, if_pos hj]; exact fx _ _ _)) (fun g1 g2 g3 g4 hd2 => ?_))
        replace hd2 : ∀ j, g3 j = if j < 32 then s_ob (s_sh (fun i => f8 (0 + i)) 32) j else f8 j := hd2
        rw [s_sh_c (m' := fun i => s_ob (s_sh (fnL x) x.length) i) (fun j hj => by rw [Nat.zero_add, hd j, if_pos hj])] at hd2
        refine E32 g1 g2 g3 g4 (fun j hj => by rw [hd2 j, if_pos hj]; exact fx _ _ _) ?_ (Or.inr c3)
        unfold hsF
        rw [if_neg c1, if_neg (by omega), if_neg c2]
        exact bl_c 32 0 0 fun i hi => by rw [Nat.zero_add, hd2 i, if_pos hi]; rfl
      · refine ok_f (fun w => c3 ((eo 170 (by decide)).mp w)) (E32 f6 f7 f8 f9 (fun j hj => by rw [hd j, if_pos hj]; exact fx _ _ _) ?_ (by omega))
        unfold hsF
        rw [if_neg c1, if_pos (by omega)]
        exact bl_c 32 0 0 fun i hi => by rw [Nat.zero_add, hd i, if_pos hi]
set_option maxHeartbeats 400000 in
theorem l_tk21 (fu : Nat) {z th0 sz0 : Nat → Int32} {y : List Int32} {X R A : Stk} {ops d : Nat} {a2 : Int32} (hd : d = X.length + 1 + R.length) (h9 : z 9 = nI d) (hl : d + A.length ≤ 202) (h : rM z th0 sz0 (X ++ y :: R) A ops) : ∀ (Y X2 : Stk) n th sz, Y.reverse ++ X2 = X → Y.length < n → stU th sz 0 (X2 ++ R) → stU th sz (R.length + X2.length + 1) Y.reverse → sl th sz d y → stA th sz A → ftB th → ok (x_M_takes_21 fu n a2 (nI (R.length + X2.length)) z th sz) (fun x => x.1 = 1 ∧ zf z x.2.1 ∧ rM x.2.1 x.2.2.1 x.2.2.2 (if a2 = 0 then X ++ R else y :: (X ++ R)) A ops) := by
  intro Y
  induction Y with
  | nil =>
    intro X2 n th sz hX hn h1 h2 h3 h4 h5
    replace hX : X2 = X := hX
    subst hX
    obtain ⟨n, rfl⟩ : ∃ m, n = m + 1 := ⟨n - 1, by omega⟩
    show ok (xb_M_takes_21 fu (x_M_takes_21 fu n) a2 (nI (R.length + X2.length)) z th sz) _
    unfold xb_M_takes_21
    have ed : d - 1 = (X2 ++ R).length := by rw [List.length_append]; omega
    rw [h9, show (1 : Int32) = nI 1 from rfl, nI_sb (by omega)]
    refine ok_t ((nI_leI (by omega) (by omega)).mpr (by omega)) (ok_bnd (ok_bd2 (v_move fu z th sz h5 (by omega) (by omega) h3) (fun f2 f3 w => ?_)))
    replace w : wS th sz (d - 1) y f2 f3 := w
    have h' : rM z th sz [] A ops → True := fun _ => trivial
    obtain ⟨⟨g1, g2, g3⟩, -, -, -, -, g8⟩ := h
    rw [ed] at w
    obtain ⟨w1, w2, w3, w4⟩ := w
    have sR : stU f2 f3 0 (X2 ++ R) := stU_k h1 (fun j _ b => w2 j (by omega)) (fun k _ b => w3 k (by omega))
    have sA : stA f2 f3 A := stA_k h4 (by omega) (fun j a b => w2 j (by omega)) (fun k a b => w3 k (by omega))
    by_cases q : a2 = 0
    · refine ok_t q (ok_bnd (ok_bnd (ok_some ⟨rfl, zf_9 _, ?_⟩)))
      rw [if_pos q]
      refine ⟨⟨?_, ?_, ?_⟩, sR, sA, w4, by omega, g8⟩
      · show upd z 9 (nI (d - 1)) 9 = _
        rw [pk_us, ed]
      · show upd z 9 (nI (d - 1)) 10 = _
        rw [pk_un (by decide)]; exact g2
      · show upd z 9 (nI (d - 1)) 11 = _
        rw [pk_un (by decide)]; exact g3
    · refine ok_f q (ok_some ⟨rfl, zf_r _, ?_⟩)
      rw [if_neg q]
      refine ⟨⟨?_, g2, g3⟩, ⟨by rw [Nat.zero_add]; exact w1, sR⟩, sA, w4, ?_, g8⟩
      · show z 9 = nI ((X2 ++ R).length + 1)
        rw [h9, ← ed, show d - 1 + 1 = d from by omega]
      · show (X2 ++ R).length + 1 + A.length ≤ 202
        omega
  | cons w0 Y ih =>
    intro X2 n th sz hX hn h1 h2 h3 h4 h5
    rw [List.reverse_cons, List.append_assoc] at hX
    replace hn : Y.length + 1 < n := hn
    obtain ⟨n, rfl⟩ : ∃ m, n = m + 1 := ⟨n - 1, by omega⟩
    show ok (xb_M_takes_21 fu (x_M_takes_21 fu n) a2 (nI (R.length + X2.length)) z th sz) _
    unfold xb_M_takes_21
    rw [List.reverse_cons, stU_ap] at h2
    obtain ⟨h2a, h2b, -⟩ := h2
    replace h2a : stU th sz (R.length + X2.length + 1 + 1) Y.reverse := h2a
    replace h2b : sl th sz (R.length + X2.length + 1 + 0) w0 := h2b
    rw [Nat.add_zero] at h2b
    have hX' : X.length = Y.length + (1 + X2.length) := by
      rw [← hX, List.length_append, List.length_reverse, List.length_append]; rfl
    have eX : (w0 :: X2 ++ R).length = X2.length + 1 + R.length := by
      show (X2 ++ R).length + 1 = _
      rw [List.length_append]; omega
    rw [h9, show (1 : Int32) = nI 1 from rfl, nI_sb (by omega)]
    refine ok_f (fun e => by have := (nI_leI (by omega) (by omega)).mp e; omega) (ok_bn (nI_add _ _) (ok_bd2 (v_move fu z th sz h5 (by omega) (by omega) h2b) (fun f7 f8 w => ok_bn (nI_add _ _) ?_)))
    replace w : wS th sz (R.length + X2.length) w0 f7 f8 := w
    obtain ⟨w1, w2, w3, w4⟩ := w
    have sN : stU f7 f8 0 (X2 ++ R) := stU_k h1 (fun j _ b => w2 j (by rw [List.length_append] at b; omega)) (fun k _ b => w3 k (by rw [List.length_append] at b; omega))
    have sY : stU f7 f8 (R.length + X2.length + 1 + 1) Y.reverse := stU_k h2a (fun j a b => w2 j (by omega)) (fun k a b => w3 k (by omega))
    have sW : sl f7 f8 (0 + (X2 ++ R).length) w0 := by
      rw [Nat.zero_add, List.length_append, Nat.add_comm]
      exact w1
    have this := ih (w0 :: X2) n f7 f8 hX (by omega) ⟨sW, sN⟩ (by show stU f7 f8 (R.length + (X2.length + 1) + 1) Y.reverse; rw [show R.length + (X2.length + 1) + 1 = R.length + X2.length + 1 + 1 from by omega]; exact sY) (sl_k h3 (fun j a b => w2 j (by omega)) (w3 d (by omega))) (stA_k h4 (by omega) (fun j a b => w2 j (by omega)) (fun k a b => w3 k (by omega))) w4
    replace this : ok (x_M_takes_21 fu n a2 (nI (R.length + (X2.length + 1))) z f7 f8) _ := this
    rw [show R.length + X2.length + 1 = R.length + (X2.length + 1) from by omega]
    exact this
set_option maxHeartbeats 400000 in
/-- takes: the thing below X comes to the top, or goes -/
theorem v_takes (fu : Nat) (hfu : 300 ≤ fu) {z th sz : Nat → Int32} {y : List Int32} {X R A : Stk} {ops : Nat} {a2 : Int32} (h : rM z th sz (X ++ y :: R) A ops) : ok (x_M_takes fu (nI (X.length + 1)) a2 z th sz) (fun x => x.1 = 1 ∧ zf z x.2.1 ∧ rM x.2.1 x.2.2.1 x.2.2.2 (if a2 = 0 then X ++ R else y :: (X ++ R)) A ops) := by
  unfold x_M_takes
  have h9 := h.1.1
  have hl := h.2.2.2.2.1
  have el : (X ++ y :: R).length = X.length + 1 + R.length := by
    rw [List.length_append]; show X.length + (R.length + 1) = _; omega
  rw [el] at h9 hl
  obtain ⟨s1, s2⟩ := (stU_ap X (y :: R)).mp h.2.1
  replace s1 : stU th sz (0 + (R.length + 1)) X := s1
  obtain ⟨s3, s4⟩ := s2
  rw [Nat.zero_add] at s1 s3
  rw [h9, nI_sb (by omega), show X.length + 1 + R.length - (X.length + 1) = R.length from by omega]
  refine ok_bnd (ok_bd2 (v_move fu z th sz h.2.2.2.1 (by omega) (by omega) s3) (fun f2 f3 w => ok_bnd ?_))
  replace w : wS th sz (X.length + 1 + R.length) y f2 f3 := w
  obtain ⟨w1, w2, w3, w4⟩ := w
  have t4 : stU f2 f3 0 R := stU_k s4 (fun j _ b => w2 j (by omega)) (fun k _ b => w3 k (by omega))
  have t1 : stU f2 f3 (R.length + 1) X := stU_k s1 (fun j _ b => w2 j (by omega)) (fun k _ b => w3 k (by omega))
  exact l_tk21 fu (d := X.length + 1 + R.length) rfl h9 (by omega) h X.reverse [] fu f2 f3 (by rw [List.reverse_reverse, List.append_nil]) (by rw [List.length_reverse]; omega) t4 (by rw [List.reverse_reverse]; exact t1) w1 (stA_k h.2.2.1 (by omega) (fun j a b => w2 j (by omega)) (fun k a b => w3 k (by omega))) w4
