-- the reference's take
set_option maxHeartbeats 4000000 in
theorem nIn_sh (B : Nat) : ∀ TL : List Tx5, nIn (TL.map (shT B)) = nIn TL
  | [] => rfl
  | T :: TL => by
    show (T.2.1.map (sh3 B)).length + nIn (TL.map (shT B)) = T.2.1.length + nIn TL
    rw [List.length_map, nIn_sh B TL]
set_option maxHeartbeats 4000000 in
theorem nOut_sh (B : Nat) : ∀ TL : List Tx5, nOut (TL.map (shT B)) = nOut TL
  | [] => rfl
  | T :: TL => by
    show (T.2.2.2.1.map (sh3 B)).length + nOut (TL.map (shT B)) = T.2.2.2.1.length + nOut TL
    rw [List.length_map, nOut_sh B TL]
set_option maxHeartbeats 4000000 in
theorem l_sh5 {st z f4 f5 f7 f10 f13 : Nat → Int32} {B E b4 b5 b7 b10 b13 : Nat} {v3 v6 v9 v12 : Int64} (h80 : E < 80) (hz : zA z (B + E) B) (c4 : (B + 4 ≤ B + E ∧ b4 = B + 4 ∧ (v3, f4).1 = lN (leP st B 4) ∧ (v3, f4).2 18 = z 18) ∨ (B + E < B + 4 ∧ (v3, f4).2 18 = 1)) (c5 : (b4 + 64 ≤ B + E ∧ b5 = b4 + 64 ∧ f5 18 = f4 18) ∨ (B + E < b4 + 64 ∧ f5 18 = 1)) (c7 : (b5 + 4 ≤ B + E ∧ b7 = b5 + 4 ∧ (v6, f7).1 = lN (leP st b5 4) ∧ (v6, f7).2 18 = f5 18) ∨ (B + E < b5 + 4 ∧ (v6, f7).2 18 = 1)) (c10 : (b7 + 4 ≤ B + E ∧ b10 = b7 + 4 ∧ (v9, f10).1 = lN (leP st b7 4) ∧ (v9, f10).2 18 = f7 18) ∨ (B + E < b7 + 4 ∧ (v9, f10).2 18 = 1)) (c13 : (b10 + 4 ≤ B + E ∧ b13 = b10 + 4 ∧ (v12, f13).1 = lN (leP st b10 4) ∧ (v12, f13).2 18 = f10 18) ∨ (B + E < b10 + 4 ∧ (v12, f13).2 18 = 1)) : f13 18 = 1 := by
  rcases c13 with ⟨p1, p2, -, p3⟩ | ⟨-, p⟩
  case inr => exact p
  replace p3 : f13 18 = f10 18 := p3
  rw [p3]
  rcases c10 with ⟨q1, q2, -, q3⟩ | ⟨-, p⟩
  case inr => exact p
  replace q3 : f10 18 = f7 18 := q3
  rw [q3]
  rcases c7 with ⟨r1, r2, -, r3⟩ | ⟨-, p⟩
  case inr => exact p
  replace r3 : f7 18 = f5 18 := r3
  rw [r3]
  rcases c5 with ⟨s1, s2, s3⟩ | ⟨-, p⟩
  case inr => exact p
  rw [s3]
  rcases c4 with ⟨t1, t2, -, t3⟩ | ⟨-, p⟩
  case inr => exact p
  omega
set_option maxHeartbeats 4000000 in
theorem l_lo5 {st z f4 f5 f7 f10 f13 : Nat → Int32} {B E b4 b5 b7 b10 b13 : Nat} {v3 v6 v9 v12 : Int64} (h80 : 80 ≤ E) (hz : zA z (B + E) B) (h18 : z 18 = 0) (c4 : (B + 4 ≤ B + E ∧ b4 = B + 4 ∧ (v3, f4).1 = lN (leP st B 4) ∧ (v3, f4).2 18 = z 18) ∨ (B + E < B + 4 ∧ (v3, f4).2 18 = 1)) (c5 : (b4 + 64 ≤ B + E ∧ b5 = b4 + 64 ∧ f5 18 = f4 18) ∨ (B + E < b4 + 64 ∧ f5 18 = 1)) (c7 : (b5 + 4 ≤ B + E ∧ b7 = b5 + 4 ∧ (v6, f7).1 = lN (leP st b5 4) ∧ (v6, f7).2 18 = f5 18) ∨ (B + E < b5 + 4 ∧ (v6, f7).2 18 = 1)) (c10 : (b7 + 4 ≤ B + E ∧ b10 = b7 + 4 ∧ (v9, f10).1 = lN (leP st b7 4) ∧ (v9, f10).2 18 = f7 18) ∨ (B + E < b7 + 4 ∧ (v9, f10).2 18 = 1)) (c13 : (b10 + 4 ≤ B + E ∧ b13 = b10 + 4 ∧ (v12, f13).1 = lN (leP st b10 4) ∧ (v12, f13).2 18 = f10 18) ∨ (B + E < b10 + 4 ∧ (v12, f13).2 18 = 1)) : v6 = lN (leP st (B + 68) 4) ∧ v9 = lN (leP st (B + 72) 4) ∧ b13 = B + 80 ∧ f13 18 = 0 ∧ True := by
  rcases c4 with ⟨t1, t2, -, t3⟩ | ⟨p, -⟩
  case inr => omega
  rcases c5 with ⟨s1, s2, s3⟩ | ⟨p, -⟩
  case inr => omega
  rcases c7 with ⟨r1, r2, r4, r3⟩ | ⟨p, -⟩
  case inr => omega
  rcases c10 with ⟨q1, q2, q4, q3⟩ | ⟨p, -⟩
  case inr => omega
  rcases c13 with ⟨p1, p2, -, p3⟩ | ⟨p, -⟩
  case inr => omega
  replace t3 : f4 18 = z 18 := t3
  replace r3 : f7 18 = f5 18 := r3
  replace q3 : f10 18 = f7 18 := q3
  replace p3 : f13 18 = f10 18 := p3
  replace r4 : v6 = lN (leP st b5 4) := r4
  replace q4 : v9 = lN (leP st b7 4) := q4
  refine ⟨?_, ?_, by omega, ?_, trivial⟩
  · rw [r4, show b5 = B + 68 from by omega]
  · rw [q4, show b7 = B + 72 from by omega]
  · rw [p3, q3, r3, s3, t3, h18]
set_option maxHeartbeats 4000000 in
theorem l_tk126 (fu : Nat) (hfu : 5000 ≤ fu) (st one : Nat → Int32) (hst : ftB st) (h1 : V one 8 = 1) {rw : Nat → List Int32} {nb : Nat} {par hgt tim : Nat → Nat} {bit : Nat → Int32} {bad : Nat → Bool} {r : List Int32} {B t i o : Nat} (hr : ∀ j, j < r.length → st (B + j) = lf r j) (hE : r.length ≤ 3000) (hBE : B + r.length ≤ 20000) (hnb : 1 ≤ nb ∧ nb ≤ 200) (hpb : pBl (lf r) r.length = some (rTL r)) (ht : 10 * t ≤ B) (hi : 41 * i ≤ B) (ho : 9 * o ≤ B) (z0 b8 : Nat → Int32) (b11 b12 b13 b14 b15 b16 b17 b18 b19 b20 b21 b22 b23 : Nat → Int32) (b24 : Nat → Int64) (b25 b26 b27 b28 b29 b30 b31 b41 : Nat → Int32) (z : Nat → Int32) (u1 u2 u3 u4 u5 u6 u7 : Nat → Int32) (u9 u10 u11 u12 u13 u14 u15 u16 u17 u18 u19 u20 u21 u22 u23 : Nat → Int32) (u24 : Nat → Int64) (u25 u26 u27 u28 u29 u30 u31 u32 u33 u34 u35 u36 u37 u38 u39 u40 u41 u42 u43 u44 : Nat → Int32) (hT : rTb nb par hgt tim bit u2 u3 u4 u5) (hhg : ∀ k, k < nb → hgt k ≤ 57) (hid : ∀ k, k < nb → ∀ i, i < 8 → b8 (8 * k + i) = nI (leP (bIf rw k) (4 * i) 4)) (hbd : bdR nb bad u10) (hwk : ∀ k, k < nb → Wa u9 k < 2 ^ 40) (hh : ∀ j, j < 32 → u30 j = dbl (lf r) 80 j) (h3 : z 3 = nI nb) (h5 : z 5 = nI (t + (rTL r).length)) (h6 : z 6 = nI (i + nIn (rTL r))) (h7 : z 7 = nI (o + nOut (rTL r))) (hRf : rfH st u11 u12 u13 u14 u15 u16 u17 u18 u19 u20 u21 u22 u23 u24 u25 u26 u27 u41 ((rTL r).map (shT B)) t i o) (hth : ftB u39) (hz0 : ∀ j, j ≠ 5 → j ≠ 6 → j ≠ 7 → j ≠ 9 → j ≠ 16 → j ≠ 18 → z j = z0 j) (kT : keT t i o b11 b12 b13 b14 b15 b16 b17 b18 b19 b20 b21 b22 b23 b24 b25 b26 b27 b28 b29 b30 b31 b41 u11 u12 u13 u14 u15 u16 u17 u18 u19 u20 u21 u22 u23 u24 u25 u26 u27 u41) : ∀ q n k (u8 : Nat → Int32), k + q = 8 → q < n → kb b8 u8 (8 * nb) → (∀ i, i < k → u8 (8 * nb + i) = nI (leP (dbl (lf r) 80) (4 * i) 4)) → ok (x_M_take_126 fu st one n (nI B) (nI (rTm r)) (rBi r) (nI nb) (lN (rTL r).length) (nI t) (nI k) z u1 u2 u3 u4 u5 u6 u7 u8 u9 u10 u11 u12 u13 u14 u15 u16 u17 u18 u19 u20 u21 u22 u23 u24 u25 u26 u27 u28 u29 u30 u31 u32 u33 u34 u35 u36 u37 u38 u39 u40 u41 u42 u43 u44) (tkR rw nb par hgt tim bit bad st r B t i o z0 u1 u2 u3 u4 u5 u6 u7 b8 u9 u10 b11 b12 b13 b14 b15 b16 b17 b18 b19 b20 b21 b22 b23 b24 b25 b26 b27 b28 b29 b30 b31 b41) := by
  intro q
  induction q with
  | zero =>
    intro n k u8 hk hn k8 hw
    match n, hn with
    | n + 1, hn =>
      have e : k = 8 := by omega
      subst e
      exact l_tkF fu hfu st one hst h1 hr hE hBE hnb hpb ht hi ho z0 b8 b11 b12 b13 b14 b15 b16 b17 b18 b19 b20 b21 b22 b23 b24 b25 b26 b27 b28 b29 b30 b31 b41 (x_M_take_126 fu st one n) z u1 u2 u3 u4 u5 u6 u7 u8 u9 u10 u11 u12 u13 u14 u15 u16 u17 u18 u19 u20 u21 u22 u23 u24 u25 u26 u27 u28 u29 u30 u31 u32 u33 u34 u35 u36 u37 u38 u39 u40 u41 u42 u43 u44 hT hhg (fun k hk i hi => by rw [k8 _ (by omega)]; exact hid k hk i hi) hw hbd hwk hh h3 h5 h6 h7 hRf hth hz0 k8 kT
  | succ q ih =>
    intro n k u8 hk hn k8 hw
    match n, hn with
    | n + 1, hn =>
      show ok (xb_M_take_126 fu st one (x_M_take_126 fu st one n) (nI B) (nI (rTm r)) (rBi r) (nI nb) (lN (rTL r).length) (nI t) (nI k) z u1 u2 u3 u4 u5 u6 u7 u8 u9 u10 u11 u12 u13 u14 u15 u16 u17 u18 u19 u20 u21 u22 u23 u24 u25 u26 u27 u28 u29 u30 u31 u32 u33 u34 u35 u36 u37 u38 u39 u40 u41 u42 u43 u44) _
      unfold xb_M_take_126
      obtain ⟨n1, n2⟩ := hnb
      refine ok_f (fun q => absurd ((nI_leI (a := 8) (b := k) (by omega) (by omega)).mp q) (by omega)) ?_
      refine ok_bn (e' := nI (8 * nb)) (pk_mul 8 nb) (ok_bn (e' := nI (8 * nb + k)) (nI_add (8 * nb) k) (ok_bn (e' := nI (4 * k)) (pk_mul 4 k) ?_))
      refine ok_bd1 (Q := fun v => v = nI (leP u30 (4 * k) 4)) (by rw [m_small fu 32 (by decide) u30 (by omega)]; exact ok_some rfl) (fun v hv => ?_)
      subst hv
      refine ok_gd (inb_nI (by omega) (by decide)) ?_
      rw [nI_clamp (n := 8 * nb + k) (by omega)]
      refine ok_bnd (ok_bn (e' := nI (k + 1)) (nI_add k 1) ?_)
      refine ih n (k + 1) _ (by omega) (by omega) (kb_u k8 (by omega)) (fun j hj => ?_)
      by_cases q : j = k
      · rw [q, pk_us, leP_c (p' := dbl (lf r) 80) fun j' hj' => hh _ (by omega)]
      · rw [pk_un (by omega)]; exact hw j (by omega)
set_option maxHeartbeats 4000000 in
set_option maxHeartbeats 4000000 in
/-- a row that is no block -/
theorem l_tk1 {fu : Nat} {st one : Nat → Int32} {rw : Nat → List Int32} {nb : Nat} {par hgt tim : Nat → Nat} {bit : Nat → Int32} {bad : Nat → Bool} {r : List Int32} {B t i o : Nat} (hpb : pBl (lf r) r.length = none) (z0 : Nat → Int32) (b11 b12 b13 b14 b15 b16 b17 b18 b19 b20 b21 b22 b23 : Nat → Int32) (b24 : Nat → Int64) (b25 b26 b27 b28 b29 b30 b31 b41 : Nat → Int32) {x1 x2 x3 x4 x7 : Int32} {x5 : Int64} (z : Nat → Int32) (u1 u2 u3 u4 u5 u6 u7 u8 u9 u10 u11 u12 u13 u14 u15 u16 u17 u18 u19 u20 u21 u22 u23 : Nat → Int32) (u24 : Nat → Int64) (u25 u26 u27 u28 u29 u30 u31 u32 u33 u34 u35 u36 u37 u38 u39 u40 u41 u42 u43 u44 : Nat → Int32) (hth : ftB u39) (hz0 : ∀ j, j ≠ 5 → j ≠ 6 → j ≠ 7 → j ≠ 9 → j ≠ 16 → j ≠ 18 → z j = z0 j) (kT : keT t i o b11 b12 b13 b14 b15 b16 b17 b18 b19 b20 b21 b22 b23 b24 b25 b26 b27 b28 b29 b30 b31 b41 u11 u12 u13 u14 u15 u16 u17 u18 u19 u20 u21 u22 u23 u24 u25 u26 u27 u41) (hw : z 18 = 0 → z 16 ≠ z 17) : ok (xb_M_take_92 fu st one x1 x2 x3 x4 x5 x7 z u1 u2 u3 u4 u5 u6 u7 u8 u9 u10 u11 u12 u13 u14 u15 u16 u17 u18 u19 u20 u21 u22 u23 u24 u25 u26 u27 u28 u29 u30 u31 u32 u33 u34 u35 u36 u37 u38 u39 u40 u41 u42 u43 u44) (tkR rw nb par hgt tim bit bad st r B t i o z0 u1 u2 u3 u4 u5 u6 u7 u8 u9 u10 b11 b12 b13 b14 b15 b16 b17 b18 b19 b20 b21 b22 b23 b24 b25 b26 b27 b28 b29 b30 b31 b41) := by
  have CM : cmT nb t i o z0 u1 u2 u3 u4 u5 u6 u7 u8 u9 u10 b11 b12 b13 b14 b15 b16 b17 b18 b19 b20 b21 b22 b23 b24 b25 b26 b27 b28 b29 b30 b31 b41 z u1 u2 u3 u4 u5 u6 u7 u8 u9 u10 u11 u12 u13 u14 u15 u16 u17 u18 u19 u20 u21 u22 u23 u24 u25 u26 u27 u41 u39 := ⟨hz0, ⟨fun _ _ => rfl, fun _ _ => rfl, fun _ _ => rfl, fun _ _ => rfl, fun _ _ => rfl, fun _ _ => rfl, fun _ _ => rfl, fun _ _ => rfl, fun _ _ => rfl, fun _ _ => rfl⟩, kT, hth⟩
  have R : tkR rw nb par hgt tim bit bad st r B t i o z0 u1 u2 u3 u4 u5 u6 u7 u8 u9 u10 b11 b12 b13 b14 b15 b16 b17 b18 b19 b20 b21 b22 b23 b24 b25 b26 b27 b28 b29 b30 b31 b41 (1, z, u1, u2, u3, u4, u5, u6, u7, u8, u9, u10, u11, u12, u13, u14, u15, u16, u17, u18, u19, u20, u21, u22, u23, u24, u25, u26, u27, u28, u29, u30, u31, u32, u33, u34, u35, u36, u37, u38, u39, u40, u41, u42, u43, u44) := ⟨1, 0, rfl, by decide, iPr_t hpb rfl, CM, fun h => absurd h (by decide)⟩
  unfold xb_M_take_92
  by_cases q : z 18 = 0
  · exact ok_t q (ok_f (hw q) (ok_some R))
  · exact ok_f q (ok_some R)
set_option maxHeartbeats 4000000 in
theorem v_M_take (fu : Nat) (hfu : 5000 ≤ fu) (st one : Nat → Int32) (hst : ftB st) (h1 : V one 8 = 1) {rw : Nat → List Int32} {nb : Nat} {par hgt tim : Nat → Nat} {bit : Nat → Int32} {bad : Nat → Bool} {r : List Int32} {B t i o : Nat} (hr : ∀ j, j < r.length → st (B + j) = lf r j) (hE : r.length ≤ 3000) (hBE : B + r.length ≤ 20000) (hnb : 1 ≤ nb ∧ nb ≤ 200) (ht : 10 * t ≤ B) (hi : 41 * i ≤ B) (ho : 9 * o ≤ B) (z : Nat → Int32) (u1 u2 u3 u4 u5 u6 u7 u8 u9 u10 u11 u12 u13 u14 u15 u16 u17 u18 u19 u20 u21 u22 u23 : Nat → Int32) (u24 : Nat → Int64) (u25 u26 u27 u28 u29 u30 u31 u32 u33 u34 u35 u36 u37 u38 u39 u40 u41 u42 u43 u44 : Nat → Int32) (hT : rTb nb par hgt tim bit u2 u3 u4 u5) (hhg : ∀ k, k < nb → hgt k ≤ 57) (hid : ∀ k, k < nb → ∀ i, i < 8 → u8 (8 * k + i) = nI (leP (bIf rw k) (4 * i) 4)) (hbd : bdR nb bad u10) (hwk : ∀ k, k < nb → Wa u9 k < 2 ^ 40) (h3 : z 3 = nI nb) (h5 : z 5 = nI t) (h6 : z 6 = nI i) (h7 : z 7 = nI o) (h17 : z 17 = nI (B + r.length)) (hth : ftB u39) : ok (x_M_take fu st one (nI B) z u1 u2 u3 u4 u5 u6 u7 u8 u9 u10 u11 u12 u13 u14 u15 u16 u17 u18 u19 u20 u21 u22 u23 u24 u25 u26 u27 u28 u29 u30 u31 u32 u33 u34 u35 u36 u37 u38 u39 u40 u41 u42 u43 u44) (tkR rw nb par hgt tim bit bad st r B t i o z u1 u2 u3 u4 u5 u6 u7 u8 u9 u10 u11 u12 u13 u14 u15 u16 u17 u18 u19 u20 u21 u22 u23 u24 u25 u26 u27 u28 u29 u30 u31 u41) := by
  have KR : keT t i o u11 u12 u13 u14 u15 u16 u17 u18 u19 u20 u21 u22 u23 u24 u25 u26 u27 u28 u29 u30 u31 u41 u11 u12 u13 u14 u15 u16 u17 u18 u19 u20 u21 u22 u23 u24 u25 u26 u27 u41 := ⟨⟨fun _ _ => rfl, fun _ _ => rfl, fun _ _ => rfl, fun _ _ => rfl, fun _ _ => rfl, fun _ _ => rfl, fun _ _ => rfl, fun _ _ => rfl, fun _ _ => rfl⟩, ⟨fun _ _ => rfl, fun _ _ => rfl, fun _ _ => rfl, fun _ _ => rfl, fun _ _ => rfl⟩, fun _ _ => rfl, fun _ _ => rfl, fun _ _ => rfl, fun _ _ => rfl⟩
  unfold x_M_take
  refine ok_bnd (ok_bnd ?_)
  have y0 : fz z (upd (upd z 16 (nI B)) 18 0) := fun j a1 a2 a3 a4 a5 => by rw [pk_un a5, pk_un a4]
  have y1 : zA (upd (upd z 16 (nI B)) 18 0) (B + r.length) B := ⟨by rw [pk_un (by decide), pk_un (by decide)]; exact h17, by rw [pk_un (by decide), pk_us], by omega, by omega⟩
  have y2 : upd (upd z 16 (nI B)) 18 0 18 = (0 : Int32) := pk_us
  have y5 : upd (upd z 16 (nI B)) 18 0 5 = nI t := by rw [pk_un (by decide), pk_un (by decide)]; exact h5
  have y6 : upd (upd z 16 (nI B)) 18 0 6 = nI i := by rw [pk_un (by decide), pk_un (by decide)]; exact h6
  have y7 : upd (upd z 16 (nI B)) 18 0 7 = nI o := by rw [pk_un (by decide), pk_un (by decide)]; exact h7
  have y3 : upd (upd z 16 (nI B)) 18 0 3 = nI nb := by rw [pk_un (by decide), pk_un (by decide)]; exact h3
  generalize upd (upd z 16 (nI B)) 18 0 = z2 at *
  refine ok_bd2 (g_ge fu (by omega) st z2 (n := 4) (by decide) y1) (fun v3 f4 hq => ?_)
  obtain ⟨k4, b4, l4, hz4, c4⟩ := hq
  replace k4 : zk z2 f4 := k4
  replace hz4 : zA f4 (B + r.length) b4 := hz4
  refine ok_bd1 (g_sk fu f4 (v := 64) (by decide) hz4) (fun f5 hq => ?_)
  obtain ⟨k5, b5, l5, hz5, c5⟩ := hq
  refine ok_bd2 (g_ge fu (by omega) st f5 (n := 4) (by decide) hz5) (fun v6 f7 hq => ?_)
  obtain ⟨k7, b7, l7, hz7, c7⟩ := hq
  replace k7 : zk f5 f7 := k7
  replace hz7 : zA f7 (B + r.length) b7 := hz7
  refine ok_bnd ?_
  refine ok_bd2 (g_ge fu (by omega) st f7 (n := 4) (by decide) hz7) (fun v9 f10 hq => ?_)
  obtain ⟨k10, b10, l10, hz10, c10⟩ := hq
  replace k10 : zk f7 f10 := k10
  replace hz10 : zA f10 (B + r.length) b10 := hz10
  refine ok_bnd ?_
  refine ok_bd2 (g_ge fu (by omega) st f10 (n := 4) (by decide) hz10) (fun v12 f13 hq => ?_)
  obtain ⟨k13, b13, l13, hz13, c13⟩ := hq
  replace k13 : zk f10 f13 := k13
  replace hz13 : zA f13 (B + r.length) b13 := hz13
  refine ok_bd2 (g_co fu (by omega) st f13 hz13) (fun v14 f15 hq => ?_)
  obtain ⟨k15, b15, v, l15, hz15, hv, e15, c15⟩ := hq
  replace k15 : zk f13 f15 := k15
  replace hz15 : zA f15 (B + r.length) b15 := hz15
  replace e15 : v14 = lN v := e15
  subst e15
  have kA : zk z2 f10 := zk_t (zk_t (zk_t k4 k5) k7) k10
  have kB : zk z2 f15 := zk_t (zk_t kA k13) k15
  have d3 : f10 3 = nI nb := by rw [kA 3 (by decide) (by decide)]; exact y3
  have d5 : f15 5 = nI t := by rw [kB 5 (by decide) (by decide)]; exact y5
  have d6 : f15 6 = nI i := by rw [kB 6 (by decide) (by decide)]; exact y6
  have d7 : f15 7 = nI o := by rw [kB 7 (by decide) (by decide)]; exact y7
  rw [d3, d5]
  have hz0 : ∀ j, j ≠ 5 → j ≠ 6 → j ≠ 7 → j ≠ 9 → j ≠ 16 → j ≠ 18 → f15 j = z j := fun j a1 a2 a3 a4 a5 a6 => by rw [kB j a5 a6]; exact y0 j a1 a2 a3 a5 a6
  have hc : pBl (at0 B st) r.length = pBl (lf r) r.length := pBl_c fun j hj => hr j hj
  have WRONG : f15 18 = 1 → pBl (lf r) r.length = none → ok (x_M_take_64 fu st one fu (nI B) v6.toInt32 v9.toInt32 (nI nb) (lN v) (nI t) 0 f15 u1 u2 u3 u4 u5 u6 u7 u8 u9 u10 u11 u12 u13 u14 u15 u16 u17 u18 u19 u20 u21 u22 u23 u24 u25 u26 u27 u28 u29 u30 u31 u32 u33 u34 u35 u36 u37 u38 u39 u40 u41 u42 u43 u44) (tkR rw nb par hgt tim bit bad st r B t i o z u1 u2 u3 u4 u5 u6 u7 u8 u9 u10 u11 u12 u13 u14 u15 u16 u17 u18 u19 u20 u21 u22 u23 u24 u25 u26 u27 u28 u29 u30 u31 u41) := fun q1 q2 => by
    match fu, hfu with
    | fu + 1, hfu =>
      have R := l_tk1 (fu := fu + 1) (st := st) (one := one) (rw := rw) (nb := nb) (par := par) (hgt := hgt) (tim := tim) (bit := bit) (bad := bad) (r := r) (B := B) (t := t) (i := i) (o := o) q2 z u11 u12 u13 u14 u15 u16 u17 u18 u19 u20 u21 u22 u23 u24 u25 u26 u27 u28 u29 u30 u31 u41 (x1 := nI B) (x2 := v6.toInt32) (x3 := v9.toInt32) (x4 := nI nb) (x7 := nI t) (x5 := lN v) f15 u1 u2 u3 u4 u5 u6 u7 u8 u9 u10 u11 u12 u13 u14 u15 u16 u17 u18 u19 u20 u21 u22 u23 u24 u25 u26 u27 u28 u29 u30 u31 u32 u33 u34 u35 u36 u37 u38 u39 u40 u41 u42 u43 u44 hth hz0 KR (fun q => by rw [q1] at q; exact absurd q (by decide))
      show ok (xb_M_take_64 (fu + 1) st one (x_M_take_64 (fu + 1) st one fu) (nI B) v6.toInt32 v9.toInt32 (nI nb) (lN v) (nI t) 0 f15 u1 u2 u3 u4 u5 u6 u7 u8 u9 u10 u11 u12 u13 u14 u15 u16 u17 u18 u19 u20 u21 u22 u23 u24 u25 u26 u27 u28 u29 u30 u31 u32 u33 u34 u35 u36 u37 u38 u39 u40 u41 u42 u43 u44) _
      unfold xb_M_take_64
      by_cases q : 0 ≤ lg_cmp 0 (lN v)
      · exact ok_t q R
      · exact ok_f q (ok_f (by rw [q1]; decide) R)
  by_cases h80 : r.length < 80
  · refine WRONG ?_ (by unfold pBl; rw [if_pos h80])
    have w13 : f13 18 = 1 := l_sh5 h80 y1 c4 c5 c7 c10 c13
    rcases c15 with ⟨-, q⟩ | ⟨-, q⟩
    · replace q : f15 18 = f13 18 := q
      rw [q]; exact w13
    · exact q
  obtain ⟨s1, s2, s3, s4, s5⟩ := l_lo5 (Nat.le_of_not_lt h80) y1 y2 c4 c5 c7 c10 c13
  have ex2 : v6.toInt32 = nI (rTm r) := by
    rw [s1, iN_l]
    unfold rTm
    rw [leP_b, leP_c (p' := lf r) fun j hj => hr _ (by omega)]
  have ex3 : v9.toInt32 = rBi r := by
    rw [s2, iN_l]
    unfold rBi
    rw [leP_b, leP_c (p' := lf r) fun j hj => hr _ (by omega)]
  rw [ex2, ex3] at WRONG ⊢
  subst s3
  have hsc := cnt_sh st B r.length 80
  have hpe : pBl (lf r) r.length = (cnt (at0 B st) r.length 80).bind fun v => (pTxs (at0 B st) r.length v.1 v.2).bind fun w => if w.2 = r.length then some w.1 else none := by
    rw [← hc]; unfold pBl; rw [if_neg h80]
  cases hcn : cnt (at0 B st) r.length 80 with
  | none =>
    rw [hcn] at hsc hpe
    refine WRONG ?_ hpe
    rcases c15 with ⟨q, -⟩ | ⟨-, q⟩
    · replace hsc : cnt st (B + r.length) (B + 80) = none := hsc
      rw [hsc] at q; cases q
    · exact q
  | some w =>
    obtain ⟨v', b'⟩ := w
    rw [hcn] at hsc hpe
    replace hsc : cnt st (B + r.length) (B + 80) = some (v', B + b') := hsc
    replace hpe : pBl (lf r) r.length = (pTxs (at0 B st) r.length v' b').bind fun w => if w.2 = r.length then some w.1 else none := hpe
    rcases c15 with ⟨q, q18⟩ | ⟨q, -⟩
    case inr => rw [hsc] at q; cases q
    replace q18 : f15 18 = f13 18 := q18
    rw [hsc] at q
    have q := Option.some.inj q
    have ev : v' = v := congrArg Prod.fst q
    have eb : B + b' = b15 := congrArg Prod.snd q
    subst ev
    subst eb
    have hb' := cnt_b hcn
    rw [s4] at q18
    refine l_tk64 fu (by omega) st hst one (E := B + r.length) (v := v') (by omega) hv (nI B) (nI (rTm r)) (rBi r) (nI nb) (nI t) u1 u2 u3 u4 u5 u6 u7 u8 u9 u10 u32 u33 u34 u35 u36 u37 u38 u39 u40 u42 u43 u44 _ 2001 fu (B + b') t i o 0 v' f15 u11 u12 u13 u14 u15 u16 u17 u18 u19 u20 u21 u22 u23 u24 u25 u26 u27 u28 u29 u30 u31 u41 (Nat.zero_add _) (by omega) (by omega) hz15 q18 d5 d6 d7 (by omega) (by omega) (by omega) ?_
    intro z' v11 v12 v13 v14 v15 v16 v17 v18 v19 v20 v21 v22 v23 v24 v25 v26 v27 v28 v29 v30 v31 v41 hq
    obtain ⟨t1, t2, t3⟩ := hq
    have hz0' : ∀ j, j ≠ 5 → j ≠ 6 → j ≠ 7 → j ≠ 9 → j ≠ 16 → j ≠ 18 → z' j = z j := fun j a1 a2 a3 a4 a5 a6 => by rw [t1 j a1 a2 a3 a5 a6]; exact hz0 j a1 a2 a3 a4 a5 a6
    rw [pTxs_sh] at t3
    cases hps : pTxs (at0 B st) r.length v' b' with
    | none =>
      rw [hps] at t3 hpe
      rcases t3 with ⟨-, t3⟩ | ⟨TL, e, t3, -⟩
      · exact l_tk1 hpe z u11 u12 u13 u14 u15 u16 u17 u18 u19 u20 u21 u22 u23 u24 u25 u26 u27 u28 u29 u30 u31 u41 z' u1 u2 u3 u4 u5 u6 u7 u8 u9 u10 v11 v12 v13 v14 v15 v16 v17 v18 v19 v20 v21 v22 v23 v24 v25 v26 v27 v28 v29 v30 v31 u32 u33 u34 u35 u36 u37 u38 u39 u40 v41 u42 u43 u44 hth hz0' t2 (fun q => by rw [t3] at q; exact absurd q (by decide))
      · cases t3
    | some w =>
      obtain ⟨TL, e⟩ := w
      rw [hps] at t3 hpe
      replace hpe : pBl (lf r) r.length = if e = r.length then some TL else none := hpe
      rcases t3 with ⟨t3, -⟩ | ⟨TL', e', t3, w1, w2, w3, w4, w5, w6⟩
      · cases t3
      replace t3 : some (TL.map (shT B), B + e) = some (TL', e') := t3
      have t3 := Option.some.inj t3
      have eT : TL.map (shT B) = TL' := congrArg Prod.fst t3
      have ee : B + e = e' := congrArg Prod.snd t3
      subst eT
      subst ee
      have z17 : z' 17 = nI (B + r.length) := by rw [hz0' 17 (by decide) (by decide) (by decide) (by decide) (by decide) (by decide)]; exact h17
      have hbb := (pTxs_b v' b' TL e hps).2.2 hb'.2.1
      by_cases qe : e = r.length
      case neg =>
        rw [if_neg qe] at hpe
        refine l_tk1 hpe z u11 u12 u13 u14 u15 u16 u17 u18 u19 u20 u21 u22 u23 u24 u25 u26 u27 u28 u29 u30 u31 u41 z' u1 u2 u3 u4 u5 u6 u7 u8 u9 u10 v11 v12 v13 v14 v15 v16 v17 v18 v19 v20 v21 v22 v23 v24 v25 v26 v27 v28 v29 v30 v31 u32 u33 u34 u35 u36 u37 u38 u39 u40 v41 u42 u43 u44 hth hz0' t2 (fun _ => ?_)
        rw [w2, z17]
        exact fun q => qe (Nat.add_left_cancel ((nI_eq32 (a := B + e) (b := B + r.length) (by omega) (by omega)).mp q))
      rw [if_pos qe] at hpe
      subst qe
      have hTL : rTL r = TL := by unfold rTL; rw [hpe]; rfl
      unfold xb_M_take_92
      refine ok_t w1 (ok_t (by rw [w2, z17]) ?_)
      refine ok_bd4 (v_M_twice fu (by omega) z' 103000 st (by decide) (a := B) (N := 80) (by decide) (by omega) v28 v29 v30 v31 (fun j _ => hst _)) (fun g1 g2 g3 g4 hq => ?_)
      replace hq : ∀ j, g3 j = if j < 32 then dbl (fun i => st (B + i)) 80 j else v30 j := hq
      have hh : ∀ j, j < 32 → g3 j = dbl (lf r) 80 j := fun j hj => by
        rw [hq j, if_pos hj, dbl_c (m' := lf r) fun i hi => hr i (by omega)]
      have hlen := (pTxs_b v' b' TL _ hps).1
      have e3 : v' = (rTL r).length := by rw [hTL]; exact hlen.symm
      subst hTL
      rw [List.length_map] at w3
      rw [nIn_sh] at w4
      rw [nOut_sh] at w5
      rw [← hlen]
      exact l_tk126 fu hfu st one hst h1 hr hE hBE hnb hpe ht hi ho z u8 u11 u12 u13 u14 u15 u16 u17 u18 u19 u20 u21 u22 u23 u24 u25 u26 u27 u28 u29 u30 u31 u41 z' u1 u2 u3 u4 u5 u6 u7 u9 u10 v11 v12 v13 v14 v15 v16 v17 v18 v19 v20 v21 v22 v23 v24 v25 v26 v27 g1 g2 g3 g4 u32 u33 u34 u35 u36 u37 u38 u39 u40 v41 u42 u43 u44 hT hhg hid hbd hwk hh (by rw [hz0' 3 (by decide) (by decide) (by decide) (by decide) (by decide) (by decide)]; exact h3) w3 w4 w5 w6 hth hz0' t2 8 fu 0 u8 (by decide) (by omega) (fun _ _ => rfl) (fun i hi => absurd hi (Nat.not_lt_zero _))
