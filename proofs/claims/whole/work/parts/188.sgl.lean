-- signatures over lists; the reference's isSig
def lf (L : List Int32) (i : Nat) : Int32 := L.getD i 0
set_option maxHeartbeats 1000000 in
theorem lf_bl (h : Nat → Int32) {a n i : Nat} (hi : i < n) : lf (bl h a n) i = h (a + i) := bl_get h 0 n a i hi
set_option maxHeartbeats 1000000 in
theorem bl_lf : ∀ (L : List Int32), bl (lf L) 0 L.length = L
  | [] => rfl
  | x :: L => by
    rw [List.length_cons, bl_s]
    have e : bl (lf (x :: L)) (0 + 1) L.length = L := by
      refine Eq.trans (bl_c _ _ 0 fun i _ => ?_) (bl_lf L)
      rw [Nat.zero_add, Nat.zero_add, Nat.add_comm]
      rfl
    rw [e]
    rfl
set_option maxHeartbeats 1000000 in
theorem whS_c {h g : Nat → Int32} {a b n : Nat} (e : ∀ i, i < n → h (a + i) = g (b + i)) (w : whS h a n) : whS g b n := by
  obtain ⟨w1, w2, w3⟩ := w
  have e0 := e 0 w1
  rw [Nat.add_zero, Nat.add_zero] at e0
  refine ⟨w1, by rw [← e0]; exact w2, fun q => w3 ⟨q.1, by rw [e0]; exact q.2.1, by rw [e 1 q.1]; exact q.2.2⟩⟩
set_option maxHeartbeats 1000000 in
theorem scS_c {h g : Nat → Int32} {a b n : Nat} (hn : 0 < n) (e : ∀ i, i < n → h (a + i) = g (b + i)) (w : scS h a n) : scS g b n := by
  obtain ⟨w1, w2, w3⟩ := w
  have e0 := e 0 hn
  rw [Nat.add_zero, Nat.add_zero] at e0
  rw [beN_c n e] at w2 w3
  refine ⟨?_, w2, w3⟩
  rw [← e0]
  exact w1
set_option maxHeartbeats 1000000 in
theorem sgA_c {h g : Nat → Int32} {a b n : Nat} (e : ∀ i, i < n → h (a + i) = g (b + i)) (w : sgA h a n) : sgA g b n ∧ sgR g b = sgR h a ∧ sgV g b = sgV h a := by
  obtain ⟨⟨w1, w2, w3, w4, w5, w6, w7, w8, w9, w10, w11⟩, w12, w13⟩ := w
  have h3 : h (a + 3) = g (b + 3) := e 3 (by omega)
  rw [h3] at w6 w7 w8 w9 w10 w12 w13
  obtain ⟨r, hr⟩ : ∃ r, By (g (b + 3)) = r := ⟨_, rfl⟩
  rw [hr] at w6 w7 w8 w9 w10 w12 w13
  have h5 : h (a + 5 + r) = g (b + 5 + r) := by
    have := e (5 + r) (by omega)
    rw [← Nat.add_assoc, ← Nat.add_assoc] at this
    exact this
  rw [h5] at w7 w10 w13
  obtain ⟨s, hs⟩ : ∃ s, By (g (b + 5 + r)) = s := ⟨_, rfl⟩
  rw [hs] at w7 w10 w13
  have er : ∀ i, i < r → h (a + 4 + i) = g (b + 4 + i) := fun i hi => by
    have := e (4 + i) (by omega)
    rw [← Nat.add_assoc, ← Nat.add_assoc] at this
    exact this
  have es : ∀ i, i < s → h (a + 6 + r + i) = g (b + 6 + r + i) := fun i hi => by
    have := e (6 + r + i) (by omega)
    rw [← Nat.add_assoc, ← Nat.add_assoc, ← Nat.add_assoc, ← Nat.add_assoc] at this
    exact this
  have w9' := w9.1
  have w10' := w10.1
  refine ⟨⟨⟨w1, w2, ?_, ?_, ?_, ?_, ?_, ?_, ?_, ?_, ?_⟩, ?_, ?_⟩, ?_, ?_⟩
  · have := e 0 (by omega); rw [Nat.add_zero, Nat.add_zero] at this; rw [← this]; exact w3
  · rw [← e 1 (by omega)]; exact w4
  · rw [← e 2 (by omega)]; exact w5
  · rw [hr]; exact w6
  · rw [hr, hs]; exact w7
  · rw [hr]
    have := e (4 + r) (by omega)
    rw [← Nat.add_assoc, ← Nat.add_assoc] at this
    rw [← this]; exact w8
  · rw [hr]; exact whS_c er w9
  · rw [hr, hs]; exact whS_c es w10
  · have := e (n - 1) (by omega)
    rw [show b + n - 1 = b + (n - 1) from by omega, ← this, show a + (n - 1) = a + n - 1 from by omega]
    exact w11
  · rw [hr]; exact scS_c w9' er w12
  · rw [hr, hs]; exact scS_c w10' es w13
  · unfold sgR
    rw [hr, h3, hr, beN_c r er]
  · unfold sgV
    rw [hr, hs, h3, hr, h5, hs, beN_c s es]
set_option maxHeartbeats 1000000 in
theorem kS_c {h g : Nat → Int32} {a b n x y : Nat} (e : ∀ i, i < n → h (a + i) = g (b + i)) (w : kS h a n x y) : kS g b n x y := by
  obtain ⟨w1, w2, w3, w4, w5, w6, w7⟩ := w
  have hn : n = 33 ∨ n = 65 := w1.elim (fun q => Or.inl q.1) (fun q => Or.inr q.1)
  have e0 := e 0 (by omega)
  rw [Nat.add_zero, Nat.add_zero] at e0
  rw [e0] at w1 w7
  refine ⟨w1, ?_, w3, w4, w5, fun q => ?_, w7⟩
  · rw [w2]
    refine beN_c 32 fun j hj => ?_
    have := e (1 + j) (by omega)
    rw [← Nat.add_assoc, ← Nat.add_assoc] at this
    exact this
  · rw [w6 q]
    refine beN_c 32 fun j hj => ?_
    have := e (33 + j) (by omega)
    rw [← Nat.add_assoc, ← Nat.add_assoc] at this
    exact this
/-- a key and a signature, as lists -/
def sgO {F : Type} [Lean.Grind.Field F] [DecidableEq F] (c : Int → F) (e : Nat) (K G : List Int32) : Prop := ∃ x y, kS (lf K) 0 K.length x y ∧ sgA (lf G) 0 G.length ∧ edS c e (sgR (lf G) 0) (sgV (lf G) 0) x y
set_option maxHeartbeats 1000000 in
theorem sgO_i {F : Type} [Lean.Grind.Field F] [DecidableEq F] (c : Int → F) (e : Nat) (h : Nat → Int32) {a n b m : Nat} : (∃ x y, kS h a n x y ∧ sgA h b m ∧ edS c e (sgR h b) (sgV h b) x y) ↔ sgO c e (bl h a n) (bl h b m) := by
  unfold sgO
  rw [bl_len, bl_len]
  have k1 : ∀ i, i < n → h (a + i) = lf (bl h a n) (0 + i) := fun i hi => by rw [Nat.zero_add, lf_bl h hi]
  have k2 : ∀ i, i < m → h (b + i) = lf (bl h b m) (0 + i) := fun i hi => by rw [Nat.zero_add, lf_bl h hi]
  constructor
  · rintro ⟨x, y, w1, w2, w3⟩
    obtain ⟨v1, v2, v3⟩ := sgA_c k2 w2
    exact ⟨x, y, kS_c k1 w1, v1, by rw [v2, v3]; exact w3⟩
  · rintro ⟨x, y, w1, w2, w3⟩
    obtain ⟨v1, v2, v3⟩ := sgA_c (fun i hi => (k2 i hi).symm) w2
    exact ⟨x, y, kS_c (fun i hi => (k1 i hi).symm) w1, v1, by rw [v2, v3]; exact w3⟩
/-- the number that a text's double hash is -/
def hN (L : List Int32) : Nat := beN (dbl (lf L) L.length) 0 32
set_option maxHeartbeats 1000000 in
theorem sgE_n (fu : Nat) (st e1 e2 e3 e4 e5 e6 e7 e8 : Nat → Int32) {z0 : Nat → Int32} (h12 : z0 12 = -1) : sgE fu st e1 e2 e3 e4 e5 e6 e7 e8 z0 (fun _ _ => false) := by
  intro th sz a b K G z hT hz ha hb hK hG s1 s2 s3 s4 s5 s6 s7 s8 s9 s10 s11 s12 s13 s14 s15 s16 s17 s18 s19 s20 s21 s22 s23 s24 s25 mg
  unfold x_M_isSig
  have e : z 12 = -1 := by rw [hz 12 (by decide) (by decide) (by decide) (by decide)]; exact h12
  refine ok_f (by rw [e]; decide) (ok_some ⟨tf_0 (show ¬ false = true by decide), fun _ _ => rfl⟩)
set_option maxHeartbeats 1000000 in
theorem sgE_m {F : Type} [Lean.Grind.Field F] [DecidableEq F] {c : Int → F} (hc : cH pP c) (fu : Nat) (hfu : 2 ^ 257 ≤ fu) (st e1 e2 e3 e4 e5 e6 e7 e8 : Nat → Int32) (hone : V e7 8 = 1) {z0 : Nat → Int32} {T : Tx5} {t i0 k sA sL : Nat} (hE : mgE st e1 e2 e3 e4 e5 e6 e8 T t i0) (h12 : z0 12 = nI (i0 + k)) (h13 : z0 13 = nI t) (h14 : z0 14 = nI sA) (h15 : z0 15 = nI sL) (hs : sA + sL ≤ 103000) (hsL : sL ≤ 1000) (hk : k < 2600) (sg : List Int32 → List Int32 → Bool) (hsg : ∀ K G, sg K G = true ↔ sgO c (hN (msG st (bl st sA sL) k T)) K G) : sgE fu st e1 e2 e3 e4 e5 e6 e7 e8 z0 sg := by
  intro th sz a b K G z hT hz ha hb hK hG s1 s2 s3 s4 s5 s6 s7 s8 s9 s10 s11 s12 s13 s14 s15 s16 s17 s18 s19 s20 s21 s22 s23 s24 s25 mg
  have h1600 : 1600 ≤ fu := Nat.le_trans (by decide) hfu
  have hi0 : i0 ≤ 2600 := by have := hE.1.2.1; omega
  have g12 : z 12 = nI (i0 + k) := by rw [hz 12 (by decide) (by decide) (by decide) (by decide)]; exact h12
  have g13 : z 13 = nI t := by rw [hz 13 (by decide) (by decide) (by decide) (by decide)]; exact h13
  have g14 : z 14 = nI sA := by rw [hz 14 (by decide) (by decide) (by decide) (by decide)]; exact h14
  have g15 : z 15 = nI sL := by rw [hz 15 (by decide) (by decide) (by decide) (by decide)]; exact h15
  obtain ⟨k1, k2, k3⟩ := hK
  obtain ⟨q1, q2, q3⟩ := hG
  unfold x_M_isSig
  refine ok_t (by rw [g12]; exact (nI_leI (a := 0) (by omega) (by omega)).mpr (by omega)) (ok_gd (inb_nI hb (by omega)) ?_)
  rw [nI_clamp (n := b) (by omega), q1]
  refine ok_bnd ?_
  have no : ¬ sgA (lf G) 0 G.length → ok (some ((0 : Int32), z, s1, s2, s3, s4, s5, s6, s7, s8, s9, s10, s11, s12, s13, s14, s15, s16, s17, s18, s19, s20, s21, s22, s23, s24, s25, mg)) (sg28 (sg K G) z) := fun hn => ok_some ⟨tf_0 (fun e => by
    obtain ⟨x, y, -, w, -⟩ := (hsg K G).mp e
    exact hn w), fun _ _ => rfl⟩
  by_cases c0 : G.length = 0
  · refine ok_t (by rw [c0]; rfl) (no fun w => by have := w.1.1; omega)
  refine ok_f (fun e => c0 ((nI_eq (b := 0) (by omega) (by omega)).mp e)) (ok_bn (e' := nI (256 * b)) (pk_mul 256 b) (ok_bn (nI_add _ _) (ok_bn (e' := nI (256 * b + G.length - 1)) (nI_sb (b := 1) (by omega)) (ok_gd (inb_nI (by omega) (by omega)) ?_))))
  rw [nI_clamp (n := 256 * b + G.length - 1) (by omega)]
  have eb : ∀ i, i < G.length → lf G (0 + i) = th (256 * b + i) := fun i hi => by
    have := lf_bl th (a := 256 * b) hi
    rw [q3] at this
    rw [Nat.zero_add]
    exact this
  refine ok_bnd ?_
  by_cases c1 : th (256 * b + G.length - 1) = 1
  · refine ok_t c1 (ok_bd2 (v_M_message fu (by omega) z st e1 e2 e3 e4 e5 e6 e8 mg hE g12 g13 g14 g15 hs hsL hk) (fun v6 f7 w => ?_))
    obtain ⟨w1, w2⟩ := w
    replace w1 : v6 = nI (msG st (bl st sA sL) k T).length := w1
    replace w2 : mF f7 (msG st (bl st sA sL) k T) := w2
    subst w1
    have hlen : (msG st (bl st sA sL) k T).length ≤ 60000 := by
      obtain ⟨⟨b1, b2, b3, b4, b5, b6, b7⟩, -, -, -⟩ := hE
      unfold msG
      have m1 := mIn_le st (bl st sA sL) k T.2.1 0
      rw [if_pos (Nat.zero_le _), bl_len] at m1
      have m2 := cbL_le T.2.1.length
      rw [List.length_append, List.length_append, List.length_append, List.length_append, bl_len, bl_len, show [(1 : Int32), 0, 0, 0].length = 4 from rfl]
      omega
    obtain ⟨L, hL⟩ : ∃ L, msG st (bl st sA sL) k T = L := ⟨_, rfl⟩
    rw [hL] at w2 hlen hsg
    rw [hL]
    refine ok_bd4 (v_M_twice fu h1600 z 100100 f7 (by omega) (a := 0) (N := L.length) (by omega) (by omega) s1 s2 s3 s4 (fun j hj => by rw [Nat.zero_add]; exact w2.2 j hj)) (fun f8 f9 f10 f11 hh => ?_)
    replace hh : ∀ j, f10 j = if j < 32 then dbl (fun i => f7 (0 + i)) L.length j else s3 j := hh
    have eh : beN f10 0 32 = hN L := by
      unfold hN
      refine beN_c 32 fun j hj => ?_
      rw [Nat.zero_add, hh j, if_pos hj]
      refine congrFun (dbl_c fun i hi => ?_) j
      have := lf_bl f7 (a := 0) hi
      rw [w2.1] at this
      exact this.symm
    refine ok_bn (e' := nI (256 * a)) (pk_mul 256 a) (ok_gd (inb_nI ha (by omega)) ?_)
    rw [nI_clamp (n := a) (by omega), k1]
    refine ok_bnd (ok_bn (e' := nI (256 * b)) (pk_mul 256 b) ?_)
    refine ok_bd23 (v_isSigned hc fu hfu f10 e7 hone 104448 (by omega) th (a := 256 * a) (n := K.length) (b := 256 * b) (m := G.length) (by omega) (by omega) z s5 s6 s7 s8 s9 s10 s11 s12 s13 s14 s15 s16 s17 s18 s19 s20 s21 s22 s23 s24 s25) (fun v15 f16 f17 f18 f19 f20 f21 f22 f23 f24 f25 f26 f27 f28 f29 f30 f31 f32 f33 f34 f35 f36 f37 r => ?_)
    obtain ⟨r1, r2⟩ := r
    replace r1 : ∀ j, j ≠ 8 → f16 j = z j := r1
    replace r2 : (v15 = 1 ∧ ∃ x y, kS th (256 * a) K.length x y ∧ sgA th (256 * b) G.length ∧ edS c (beN f10 0 32) (sgR th (256 * b)) (sgV th (256 * b)) x y) ∨ (v15 = 0 ∧ ¬ ∃ x y, kS th (256 * a) K.length x y ∧ sgA th (256 * b) G.length ∧ edS c (beN f10 0 32) (sgR th (256 * b)) (sgV th (256 * b)) x y) := r2
    rw [sgO_i, eh, k3, q3, ← hsg] at r2
    rcases r2 with ⟨rfl, p2⟩ | ⟨rfl, p2⟩
    · exact ok_gd (by decide) (ok_some ⟨tf_1 p2, r1⟩)
    · exact ok_gd (by decide) (ok_some ⟨tf_0 p2, r1⟩)
  · refine ok_f c1 (no fun w => c1 ?_)
    have := w.1.2.2.2.2.2.2.2.2.2.2
    have e2 := eb (G.length - 1) (by omega)
    rw [show 256 * b + G.length - 1 = 256 * b + (G.length - 1) from by omega, ← e2, Nat.zero_add]
    rw [Nat.zero_add] at this
    exact this
