-- the reference's machine: two scripts
set_option maxHeartbeats 1000000 in
theorem v_M_run (fu : Nat) (hfu : 1600 ≤ fu) (sg : List Int32 → List Int32 → Bool) (st e1 e2 e3 e4 e5 e6 e7 e8 : Nat → Int32) {z0 : Nat → Int32} (hE : sgE fu st e1 e2 e3 e4 e5 e6 e7 e8 z0 sg) {n1 : Nat} {h1 : Nat → Int32} (hn1 : n1 < 2 ^ 30) (hf1 : ftB h1) {a N : Nat} (hN : N ≤ 1000) (haN : a + N ≤ n1) {S : Stk} {z th sz : Nat → Int32} (hz : zf z0 z) (h9 : z 9 = nI S.length) (hS : stU th sz 0 S) (hl : S.length ≤ 200) (hT : ftB th) (s1 s2 s3 s4 s5 s6 s7 s8 s9 s10 s11 s12 s13 s14 s15 s16 s17 s18 s19 s20 s21 s22 s23 s24 s25 tk mg : Nat → Int32) : ok (x_M_run fu st e1 e2 e3 e4 e5 e6 e7 e8 n1 h1 (nI a) (nI N) z s1 s2 s3 s4 s5 s6 s7 s8 s9 s10 s11 s12 s13 s14 s15 s16 s17 s18 s19 s20 s21 s22 s23 s24 s25 th sz tk mg) (rn31 (rnS sg hsF 1001 (bl h1 a N) S [] 0 []) z0) := by
  unfold x_M_run
  refine ok_bnd (ok_bnd ?_)
  have := l_rn19 fu hfu sg st e1 e2 e3 e4 e5 e6 e7 e8 hE hn1 hf1 hN haN fu 1001 a S [] 0 [] (upd (upd z 10 (0 : Int32)) 11 (0 : Int32)) s1 s2 s3 s4 s5 s6 s7 s8 s9 s10 s11 s12 s13 s14 s15 s16 s17 s18 s19 s20 s21 s22 s23 s24 s25 th sz tk mg (Nat.le_refl _) (by omega) (by omega) (by omega) (zf_t hz (zf_t (zf_10 _) (zf_11 _))) ⟨⟨by rw [pk_un (by decide), pk_un (by decide)]; exact h9, by rw [pk_un (by decide), pk_us]; rfl, by rw [pk_us]; rfl⟩, hS, trivial, hT, by show S.length + 0 ≤ 202; omega, by omega⟩ (by show S.length + 0 ≤ 200; omega) trivial (by show 0 + a ≤ a; omega)
  rw [Nat.add_sub_cancel_left] at this
  exact this
def trQ (b : Bool) (z0 : Nat → Int32) (v : Int32) (z th : Nat → Int32) : Prop := tf (b = true) v ∧ zf z0 z ∧ ftB th
def tr31 (b : Bool) (z0 : Nat → Int32) (x : T31) : Prop := match x with
  | (v, z, _, _, _, _, _, _, _, _, _, _, _, _, _, _, _, _, _, _, _, _, _, _, _, _, _, th, _, _, _) => trQ b z0 v z th
set_option maxHeartbeats 1000000 in
theorem scrS_0 {sg : List Int32 → List Int32 → Bool} {a b : List Int32} (h : rnS sg hsF 1001 a [] [] 0 [] = none) : scrS sg hsF a b = false := by
  unfold scrS
  rw [h]
set_option maxHeartbeats 1000000 in
theorem scrS_1 {sg : List Int32 → List Int32 → Bool} {a b : List Int32} {S : Stk} (h : rnS sg hsF 1001 a [] [] 0 [] = some S) (h' : rnS sg hsF 1001 b S [] 0 [] = none) : scrS sg hsF a b = false := by
  unfold scrS
  rw [h]
  show (match rnS sg hsF 1001 b S [] 0 [] with | some (x :: _) => truB x | _ => false) = false
  rw [h']
set_option maxHeartbeats 1000000 in
theorem scrS_2 {sg : List Int32 → List Int32 → Bool} {a b : List Int32} {S : Stk} (h : rnS sg hsF 1001 a [] [] 0 [] = some S) (h' : rnS sg hsF 1001 b S [] 0 [] = some []) : scrS sg hsF a b = false := by
  unfold scrS
  rw [h]
  show (match rnS sg hsF 1001 b S [] 0 [] with | some (x :: _) => truB x | _ => false) = false
  rw [h']
set_option maxHeartbeats 1000000 in
theorem scrS_3 {sg : List Int32 → List Int32 → Bool} {a b : List Int32} {S : Stk} {x : List Int32} {S' : Stk} (h : rnS sg hsF 1001 a [] [] 0 [] = some S) (h' : rnS sg hsF 1001 b S [] 0 [] = some (x :: S')) : scrS sg hsF a b = truB x := by
  unfold scrS
  rw [h]
  show (match rnS sg hsF 1001 b S [] 0 [] with | some (x :: _) => truB x | _ => false) = truB x
  rw [h']
set_option maxHeartbeats 1000000 in
theorem v_M_isTrue0 (fu : Nat) (hfu : 1600 ≤ fu) (sg : List Int32 → List Int32 → Bool) (st e1 e2 e3 e4 e5 e6 e7 e8 : Nat → Int32) {z0 : Nat → Int32} (hE : sgE fu st e1 e2 e3 e4 e5 e6 e7 e8 z0 sg) {n1 : Nat} {h1 : Nat → Int32} (hn1 : n1 < 2 ^ 30) (hf1 : ftB h1) {a N b M : Nat} (hN : N ≤ 1000) (haN : a + N ≤ n1) (hM : M ≤ 1000) (hbM : b + M ≤ n1) {z th : Nat → Int32} (hz : zf z0 z) (hT : ftB th) (s1 s2 s3 s4 s5 s6 s7 s8 s9 s10 s11 s12 s13 s14 s15 s16 s17 s18 s19 s20 s21 s22 s23 s24 s25 sz tk mg : Nat → Int32) : ok (x_M_isTrue0 fu st e1 e2 e3 e4 e5 e6 e7 e8 n1 h1 (nI a) (nI N) (nI b) (nI M) z s1 s2 s3 s4 s5 s6 s7 s8 s9 s10 s11 s12 s13 s14 s15 s16 s17 s18 s19 s20 s21 s22 s23 s24 s25 th sz tk mg) (tr31 (scrS sg hsF (bl h1 a N) (bl h1 b M)) z0) := by
  unfold x_M_isTrue0
  refine ok_bnd (ok_bd31 (v_M_run fu hfu sg st e1 e2 e3 e4 e5 e6 e7 e8 hE hn1 hf1 hN haN (S := []) (zf_t hz (zf_9 _)) pk_us trivial (Nat.zero_le _) hT s1 s2 s3 s4 s5 s6 s7 s8 s9 s10 s11 s12 s13 s14 s15 s16 s17 s18 s19 s20 s21 s22 s23 s24 s25 tk mg) (fun v f2 f3 f4 f5 f6 f7 f8 f9 f10 f11 f12 f13 f14 f15 f16 f17 f18 f19 f20 f21 f22 f23 f24 f25 f26 f27 f28 f29 f30 f31 hq => ?_))
  replace hq : rnQ (rnS sg hsF 1001 (bl h1 a N) [] [] 0 []) z0 v f2 f28 f29 := hq
  obtain ⟨j1, j2, ⟨j3, j4⟩ | ⟨S, j3, j4, j5, j6, j7⟩⟩ := hq
  · rw [scrS_0 j3]
    exact ok_t j4 (ok_some ⟨tf_0 (by decide), j1, j2⟩)
  refine ok_f (by rw [j4]; decide) (ok_bd31 (v_M_run fu hfu sg st e1 e2 e3 e4 e5 e6 e7 e8 hE hn1 hf1 hM hbM j1 j5 j6 j7 j2 f3 f4 f5 f6 f7 f8 f9 f10 f11 f12 f13 f14 f15 f16 f17 f18 f19 f20 f21 f22 f23 f24 f25 f26 f27 f30 f31) (fun w g2 g3 g4 g5 g6 g7 g8 g9 g10 g11 g12 g13 g14 g15 g16 g17 g18 g19 g20 g21 g22 g23 g24 g25 g26 g27 g28 g29 g30 g31 hq => ?_))
  replace hq : rnQ (rnS sg hsF 1001 (bl h1 b M) S [] 0 []) z0 w g2 g28 g29 := hq
  obtain ⟨k1, k2, ⟨k3, k4⟩ | ⟨S', k3, k4, k5, k6, k7⟩⟩ := hq
  · rw [scrS_1 j3 k3]
    exact ok_t k4 (ok_some ⟨tf_0 (by decide), k1, k2⟩)
  refine ok_f (by rw [k4]; decide) ?_
  rw [k5]
  cases S' with
  | nil =>
    rw [scrS_2 j3 k3]
    exact ok_t (by decide) (ok_some ⟨tf_0 (by decide), k1, k2⟩)
  | cons x S' =>
    rw [scrS_3 j3 k3]
    replace k7 : S'.length + 1 ≤ 200 := k7
    have s0 := k6.1
    rw [Nat.zero_add] at s0
    refine ok_f (fun e => by have := (nI_leI (a := S'.length + 1) (b := 0) (by omega) (by omega)).mp e; omega) (ok_bn (e' := nI S'.length) (nI_sb (a := S'.length + 1) (b := 1) (by omega)) ?_)
    refine ok_bd1 (v_isTrue1 fu (by omega) _ _ _ (by omega) s0) (fun u hu => ok_tf hu (fun q => ok_some ⟨tf_0 q, k1, k2⟩) (fun q => ok_some ⟨tf_1 q, k1, k2⟩))
set_option maxHeartbeats 1000000 in
theorem f1_run (fu : Nat) (st e1 e2 e3 e4 e5 e6 e7 e8 : Nat → Int32) : ∀ n, x_M_run_f1store_19 fu st e1 e2 e3 e4 e5 e6 e7 e8 n = x_M_run_19 fu st e1 e2 e3 e4 e5 e6 e7 e8 103000 st n
  | 0 => rfl
  | n + 1 => by
    show xb_M_run_f1store_19 fu st e1 e2 e3 e4 e5 e6 e7 e8 (x_M_run_f1store_19 fu st e1 e2 e3 e4 e5 e6 e7 e8 n) = xb_M_run_19 fu st e1 e2 e3 e4 e5 e6 e7 e8 103000 st (x_M_run_19 fu st e1 e2 e3 e4 e5 e6 e7 e8 103000 st n)
    rw [f1_run fu st e1 e2 e3 e4 e5 e6 e7 e8 n]
    rfl
set_option maxHeartbeats 1000000 in
theorem f1_true (fu : Nat) (st e1 e2 e3 e4 e5 e6 e7 e8 : Nat → Int32) (a2 a3 a4 a5 : Int32) (z s1 s2 s3 s4 s5 s6 s7 s8 s9 s10 s11 s12 s13 s14 s15 s16 s17 s18 s19 s20 s21 s22 s23 s24 s25 th sz tk mg : Nat → Int32) : x_M_isTrue0_f1store fu st e1 e2 e3 e4 e5 e6 e7 e8 a2 a3 a4 a5 z s1 s2 s3 s4 s5 s6 s7 s8 s9 s10 s11 s12 s13 s14 s15 s16 s17 s18 s19 s20 s21 s22 s23 s24 s25 th sz tk mg = x_M_isTrue0 fu st e1 e2 e3 e4 e5 e6 e7 e8 103000 st a2 a3 a4 a5 z s1 s2 s3 s4 s5 s6 s7 s8 s9 s10 s11 s12 s13 s14 s15 s16 s17 s18 s19 s20 s21 s22 s23 s24 s25 th sz tk mg := by
  unfold x_M_isTrue0_f1store x_M_isTrue0 x_M_run_f1store x_M_run
  rw [f1_run]
