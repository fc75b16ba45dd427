-- what a signature signs, in the class's pieces
/-- inputs lie one behind the other, from b to c -/
def cgI : Nat → List In3 → Nat → Prop
  | b, [], c => b = c
  | b, i :: I, c => i.1 = b ∧ b + 37 ≤ i.2.1 ∧ cgI (i.2.1 + i.2.2 + 4) I c
set_option maxHeartbeats 1000000 in
theorem cgI_le : ∀ I b c, cgI b I c → b + 41 * I.length ≤ c
  | [], b, c, h => by replace h : b = c := h; show b + 41 * 0 ≤ c; omega
  | i :: I, b, c, h => by
    have := cgI_le I _ c h.2.2
    have h2 := h.2.1
    show b + 41 * (I.length + 1) ≤ c
    omega
def scJ (sc : List Int32) (k j : Nat) : List Int32 := if j = k then cbL sc.length ++ sc else [0]
def ctx (p : Nat → Int32) (sc : List Int32) (k e : Nat) : Nat → List In3 → Nat → List Int32
  | a, [], _ => bl p a (e - a) ++ [1, 0, 0, 0]
  | a, i :: I, j => bl p a (i.1 + 36 - a) ++ (scJ sc k j ++ ctx p sc k e (i.2.1 + i.2.2) I (j + 1))
set_option maxHeartbeats 1000000 in
theorem ctx_e (p : Nat → Int32) (sc : List Int32) (k : Nat) {c e : Nat} (hce : c ≤ e) : ∀ I a b j, a ≤ b → cgI b I c → ctx p sc k e a I j = bl p a (b - a) ++ (mIn p sc k I j ++ (bl p c (e - c) ++ [1, 0, 0, 0]))
  | [], a, b, j, hab, h => by
    replace h : b = c := h
    subst h
    show bl p a (e - a) ++ [1, 0, 0, 0] = bl p a (b - a) ++ ([] ++ (bl p b (e - b) ++ [1, 0, 0, 0]))
    rw [List.nil_append, ← List.append_assoc, show bl p b (e - b) = bl p (a + (b - a)) (e - b) from by rw [show a + (b - a) = b from by omega], ← bl_app, show b - a + (e - b) = e - a from by omega]
  | i :: I, a, b, j, hab, h => by
    obtain ⟨h1, h2, h3⟩ := h
    have hl := cgI_le I _ c h3
    have ih := ctx_e p sc k hce I (i.2.1 + i.2.2) (i.2.1 + i.2.2 + 4) (j + 1) (by omega) h3
    show bl p a (i.1 + 36 - a) ++ (scJ sc k j ++ ctx p sc k e (i.2.1 + i.2.2) I (j + 1)) = bl p a (b - a) ++ ((bl p i.1 36 ++ (scJ sc k j ++ (bl p (i.2.1 + i.2.2) 4 ++ mIn p sc k I (j + 1)))) ++ (bl p c (e - c) ++ [1, 0, 0, 0]))
    rw [ih, show i.2.1 + i.2.2 + 4 - (i.2.1 + i.2.2) = 4 from by omega, h1, show b + 36 - a = (b - a) + 36 from by omega, bl_app, show a + (b - a) = b from by omega]
    simp only [List.append_assoc]
set_option maxHeartbeats 1000000 in
theorem ctx_m (p : Nat → Int32) (sc : List Int32) (k : Nat) (T : Tx5) {b : Nat} (hb : bl p (T.1 + 4) (b - (T.1 + 4)) = cbL T.2.1.length) (h1 : T.1 + 4 ≤ b) (hc : cgI b T.2.1 T.2.2.1) (hce : T.2.2.1 ≤ T.2.2.2.2) : ctx p sc k T.2.2.2.2 T.1 T.2.1 0 = msG p sc k T := by
  rw [ctx_e p sc k hce T.2.1 T.1 b 0 (by omega) hc]
  unfold msG
  rw [show b - T.1 = 4 + (b - (T.1 + 4)) from by omega, bl_app, hb, List.append_assoc]
set_option maxHeartbeats 1000000 in
/-- COUNT has one form -/
theorem cnt_cb {p : Nat → Int32} (hp : ∀ j, fits .byte (.int (p j)) = true) {E a v b : Nat} (h : cnt p E a = some (v, b)) (hv : v < 65536) : bl p a (b - a) = cbL v := by
  unfold cnt at h
  have f8 : ∀ (x : Int32) (y : Int32), fits .byte (.int x) = true → By x = U y % 256 → x = y.toInt8.toInt32 := fun x y hx e => fit_inj hx (pk_fb _) (by rw [By_8]; exact e)
  by_cases g : E ≤ a
  · rw [if_pos g] at h; exact absurd h (by simp)
  rw [if_neg g] at h
  have hB := By_lt (p a)
  unfold cbL
  by_cases g1 : By (p a) < 253
  · rw [if_pos g1] at h
    have h := Option.some.inj h
    have e1 : v = By (p a) := (congrArg Prod.fst h).symm
    have e2 : b = a + 1 := (congrArg Prod.snd h).symm
    subst e2
    rw [if_neg (by omega), show a + 1 - a = 1 from by omega, bl_s, bl_0]
    refine congrArg (· :: []) (f8 _ _ (hp a) ?_)
    rw [e1, U_nI (by omega)]
    omega
  rw [if_neg g1] at h
  by_cases g2 : By (p a) = 253
  · rw [if_pos g2] at h
    by_cases g3 : a + 3 ≤ E ∧ 253 ≤ leP p (a + 1) 2
    · rw [if_pos g3] at h
      have h := Option.some.inj h
      have e1 : v = leP p (a + 1) 2 := (congrArg Prod.fst h).symm
      have e2 : b = a + 3 := (congrArg Prod.snd h).symm
      subst e2
      have b0 := By_lt (p (a + 1))
      have b1 := By_lt (p (a + 2))
      have ev : v = By (p (a + 1)) + By (p (a + 2)) * 256 := by
        rw [e1]
        show 0 + By (p (a + 1 + 0)) * 2 ^ (8 * 0) + By (p (a + 1 + 1)) * 2 ^ (8 * 1) = _
        rw [Nat.add_zero, Nat.zero_add, show a + 1 + 1 = a + 2 from rfl]
        omega
      rw [if_pos (by omega), show a + 3 - a = 3 from by omega, bl_s, bl_s, bl_s, bl_0]
      have q0 : p a = -3 := fit_inj (hp a) (by decide) (by rw [g2]; decide)
      have q1 : p (a + 1) = (nI v).toInt8.toInt32 := f8 _ _ (hp _) (by rw [U_nI (by omega)]; omega)
      have q2 : p (a + 1 + 1) = (nI v >>> ((8 : Int32) &&& 31)).toInt8.toInt32 := by
        have s := sar4 (nI v) (j := 1) (by decide)
        rw [show (8 : Int32) * nI 1 = 8 from by decide] at s
        rw [s]
        refine f8 _ _ (hp _) ?_
        have u := pk_ushr (nI v) (8 : Int32) 8 (by decide)
        have eU : (nI v).toBitVec.toNat = v := U_nI (by omega)
        rw [eU] at u
        show By (p (a + 2)) = (((nI v).toUInt32 >>> ((8 : Int32).toUInt32 &&& Int32.toUInt32 31)).toInt32).toBitVec.toNat % 256
        rw [u]
        omega
      rw [q0, q1, q2]
    · rw [if_neg g3] at h; exact absurd h (by simp)
  rw [if_neg g2] at h
  by_cases g4 : By (p a) = 254
  · rw [if_pos g4] at h
    by_cases g3 : a + 5 ≤ E ∧ 65536 ≤ leP p (a + 1) 4
    · rw [if_pos g3] at h
      have h := Option.some.inj h
      have e1 : v = leP p (a + 1) 4 := (congrArg Prod.fst h).symm
      omega
    · rw [if_neg g3] at h; exact absurd h (by simp)
  · rw [if_neg g4] at h; exact absurd h (by simp)
set_option maxHeartbeats 1000000 in
/-- the inputs that were read lie one behind the other -/
theorem pL_cg {p : Nat → Int32} {E : Nat} : ∀ n a L b, pL (pIn p E) 4 n a = some (L, b) → cgI a L b
  | 0, a, L, b, h => by
    have h := Option.some.inj h
    have e1 : L = [] := (congrArg Prod.fst h).symm
    have e2 : b = a := (congrArg Prod.snd h).symm
    subst e1 e2
    rfl
  | n + 1, a, L, b, h => by
    obtain ⟨⟨s, l⟩, h1, h2⟩ := Option.bind_eq_some_iff.mp h
    obtain ⟨⟨L', b'⟩, h3, h4⟩ := Option.bind_eq_some_iff.mp h2
    have h4 := Option.some.inj h4
    have e1 : (a, s, l) :: L' = L := congrArg Prod.fst h4
    have e2 : b' = b := congrArg Prod.snd h4
    subst e1 e2
    exact ⟨rfl, (pIn_b h1).2.1, pL_cg n _ _ _ h3⟩
-- pieces of a text
set_option maxHeartbeats 1000000 in
theorem lf_mid {X Y : List Int32} {h : Nat → Int32} {a r j : Nat} (hj : j < r) : lf (X ++ (bl h a r ++ Y)) (X.length + j) = h (a + j) := by
  show ((X ++ (bl h a r ++ Y))[X.length + j]?).getD 0 = _
  rw [List.getElem?_append_right (by omega), Nat.add_sub_cancel_left, List.getElem?_append_left (by rw [bl_len]; exact hj)]
  exact bl_get h 0 r a j hj
set_option maxHeartbeats 1000000 in
theorem s_inv_0 (m : Nat → Int32) (u2 u4 : Nat → Int32) : s_inv m 0 0 0 (va_cpy (fun j => tb_1.getD j 0) u2 0 0 8) u4 := ⟨rfl, rfl, fun j hj => by rw [pk_cpy_in (by omega) (by omega)]; show tb_1.getD (0 + (j - 0)) 0 = tb_1.getD j 0; congr 1; omega, fun j hj => absurd hj (Nat.not_lt_zero _)⟩
set_option maxHeartbeats 1000000 in
theorem v_Sh_begin (fu : Nat) (m : Nat → Int32) (u0 : Int32) (u1 : Int64) (u2 u4 : Nat → Int32) : ok (x_Sh_begin fu u0 u1 u2) (fun x => s_inv m 0 x.1 x.2.1 x.2.2 u4) := by
  unfold x_Sh_begin
  exact ok_gd (by decide) (ok_bnd (ok_some (s_inv_0 m u2 u4)))
abbrev T5s : Type := Int32 × Int64 × (Nat → Int32) × (Nat → Int32) × (Nat → Int32)
set_option maxHeartbeats 1000000 in
/-- a piece goes in -/
theorem v_Sh_add (fu : Nat) (hfu : 20000 ≤ fu) {n1 : Nat} (hn1 : n1 < 2 ^ 30) {h1 : Nat → Int32} {X Y : List Int32} {a r : Nat} (ha : a + r ≤ n1) (hr : r < 20000) (hX : X.length < 2 ^ 20) (hf : ∀ j, j < r → fits .byte (.int (h1 (a + j))) = true) {u0 : Int32} {u1 : Int64} {st ck : Nat → Int32} (w : Nat → Int32) (hi : s_inv (lf (X ++ (bl h1 a r ++ Y))) X.length u0 u1 st ck) : ok (x_Sh_add fu n1 h1 (nI a) (nI (a + r)) u0 u1 st w ck) (fun x : T5s => s_inv (lf (X ++ (bl h1 a r ++ Y))) (X ++ bl h1 a r).length x.1 x.2.1 x.2.2.1 x.2.2.2.2) := by
  unfold x_Sh_add
  obtain ⟨u0', u1', st', w', ck', h2, e⟩ := sh_add fu (by omega) n1 (by omega) h1 (lf (X ++ (bl h1 a r ++ Y))) (a + r) ha r fu X.length a (by omega) rfl (by omega) hf (fun j hj => lf_mid hj) u0 u1 st w ck hi
  refine ⟨_, e, ?_⟩
  rw [List.length_append, bl_len]
  exact h2
set_option maxHeartbeats 1000000 in
theorem s1_add (fu : Nat) : ∀ n x3 x4 u0 u1 u2 u3 u4 r, x_Sh_add_3 fu 4 (fun j => tb_3.getD j 0) n x3 x4 u0 u1 u2 u3 u4 = some r → x_Sh_add_s1x3_3 fu n x3 x4 u0 u1 u2 u3 u4 = some r
  | 0, x3, x4, u0, u1, u2, u3, u4, r, h => absurd h (by show ¬ none = some r; simp)
  | n + 1, x3, x4, u0, u1, u2, u3, u4, r, h => by
    have ih := s1_add fu n
    replace h : xb_Sh_add_3 fu 4 (fun j => tb_3.getD j 0) (x_Sh_add_3 fu 4 (fun j => tb_3.getD j 0) n) x3 x4 u0 u1 u2 u3 u4 = some r := h
    show xb_Sh_add_s1x3_3 fu (x_Sh_add_s1x3_3 fu n) x3 x4 u0 u1 u2 u3 u4 = some r
    unfold xb_Sh_add_3 xb_Sh_add_84 at h
    unfold xb_Sh_add_s1x3_3 xb_Sh_add_s1x3_84
    by_cases c : x3 ≤ x4
    · rw [if_pos c] at h ⊢
      exact h
    · rw [if_neg c] at h ⊢
      simp only [↓bnd_q] at h ⊢
      generalize (if x3 - x4 < (64 : Int32) - u0 then x3 - x4 else (64 : Int32) - u0) = v3 at *
      unfold gd at h ⊢
      by_cases c1 : cpk x4 u0 v3 4 64 = true
      · rw [if_pos c1] at h ⊢
        by_cases c2 : bfit (fun j => tb_3.getD j 0) x4 v3 = true
        · rw [if_pos c2] at h
          by_cases c3 : u0 + v3 = 64
          · rw [if_pos c3] at h ⊢
            cases hm : x_Sh_mix fu (u1 + v3.toInt64) (va_cpy (fun j => tb_3.getD j 0) u4 x4.toNatClampNeg u0.toNatClampNeg v3.toNatClampNeg) (u0 + v3) u2 u3 with
            | none => rw [hm] at h; exact absurd h (by show ¬ none = some r; simp)
            | some y =>
              rw [hm] at h
              exact ih _ _ _ _ _ _ _ _ h
          · rw [if_neg c3] at h ⊢
            exact ih _ _ _ _ _ _ _ _ h
        · rw [if_neg c2] at h; exact absurd h (by simp)
      · rw [if_neg c1] at h; exact absurd h (by simp)
set_option maxHeartbeats 1000000 in
theorem v_Sh_add1 (fu : Nat) (hfu : 20000 ≤ fu) {X Y : List Int32} {a r : Nat} (ha : a + r ≤ 4) (hX : X.length < 2 ^ 20) {u0 : Int32} {u1 : Int64} {st ck : Nat → Int32} (w : Nat → Int32) (hi : s_inv (lf (X ++ (bl (fun j => tb_3.getD j 0) a r ++ Y))) X.length u0 u1 st ck) : ok (x_Sh_add_s1x3 fu (nI a) (nI (a + r)) u0 u1 st w ck) (fun x : T5s => s_inv (lf (X ++ (bl (fun j => tb_3.getD j 0) a r ++ Y))) (X ++ bl (fun j => tb_3.getD j 0) a r).length x.1 x.2.1 x.2.2.1 x.2.2.2.2) := by
  have hf : ∀ j, j < 4 → fits .byte (.int ((fun j => tb_3.getD j 0) j)) = true := by decide
  obtain ⟨y, e, h⟩ := v_Sh_add fu hfu (n1 := 4) (by decide) (h1 := fun j => tb_3.getD j 0) (X := X) (Y := Y) ha (by omega) hX (fun j hj => hf _ (by omega)) w hi
  exact ⟨y, s1_add fu _ _ _ _ _ _ _ _ _ e, h⟩
set_option maxHeartbeats 1000000 in
/-- the end: the hash is written -/
theorem v_Sh_fin (fu : Nat) (hfu : 20000 ≤ fu) {n1 : Nat} (hn1 : n1 < 2 ^ 30) {o : Nat} (ho : o + 32 ≤ n1) {m : Nat → Int32} {n : Nat} {u0 : Int32} {u1 : Int64} {st ck : Nat → Int32} (w to : Nat → Int32) (hi : s_inv m n u0 u1 st ck) : ok (x_Sh_finish fu u1 n1 (nI o) u0 st w ck to) (fun x : Int32 × (Nat → Int32) × (Nat → Int32) × (Nat → Int32) × (Nat → Int32) => ∀ j, x.2.2.2.2 j = if o ≤ j ∧ j < o + 32 then s_ob (s_sh m n) (j - o) else to j) := by
  obtain ⟨st', w', ck', -, e⟩ := sh_fin fu (by omega) n1 (by omega) o ho m n u0 u1 st w ck to hi
  exact ⟨_, e, fun j => s_out_at _ _ _ _ _⟩
