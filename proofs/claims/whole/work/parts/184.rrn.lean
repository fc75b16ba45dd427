-- the reference's machine: a script's run
/-- which branches are taken -/
def tkA (tk : Nat → Int32) : List Bool → Prop
  | [] => True
  | b :: I => tk I.length = (if b then 1 else 0) ∧ tkA tk I
def offN : List Bool → Nat
  | [] => 0
  | b :: I => (if b then 0 else 1) + offN I
set_option maxHeartbeats 1000000 in
theorem offN_le : ∀ I, offN I ≤ I.length
  | [] => Nat.le_refl _
  | b :: I => by
    have := offN_le I
    show (if b then 0 else 1) + offN I ≤ I.length + 1
    split <;> omega
set_option maxHeartbeats 1000000 in
theorem offN_0 : ∀ I, offN I = 0 ↔ offB I = false
  | [] => ⟨fun _ => rfl, fun _ => rfl⟩
  | true :: I => by
    show 0 + offN I = 0 ↔ offB I = false
    rw [Nat.zero_add]
    exact offN_0 I
  | false :: I => by
    show 1 + offN I = 0 ↔ true = false
    exact ⟨fun h => by omega, fun h => absurd h (by decide)⟩
set_option maxHeartbeats 1000000 in
theorem tkA_u {tk : Nat → Int32} {k : Nat} {x : Int32} : ∀ {I : List Bool}, tkA tk I → I.length ≤ k → tkA (upd tk k x) I
  | [], _, _ => trivial
  | b :: I, h, hk => by
    replace hk : I.length + 1 ≤ k := hk
    exact ⟨by rw [pk_un (by omega)]; exact h.1, tkA_u h.2 (by omega)⟩
abbrev T31 : Type := Int32 × (Nat → Int32) × (Nat → Int32) × (Nat → Int32) × (Nat → Int32) × (Nat → Int32) × (Nat → Int32) × (Nat → Int32) × (Nat → Int32) × (Nat → Int32) × (Nat → Int32) × (Nat → Int32) × (Nat → Int32) × (Nat → Int32) × (Nat → Int32) × (Nat → Int32) × (Nat → Int32) × (Nat → Int32) × (Nat → Int32) × (Nat → Int32) × (Nat → Int32) × (Nat → Int32) × (Nat → Int32) × (Nat → Int32) × (Nat → Int32) × (Nat → Int32) × (Nat → Int32) × (Nat → Int32) × (Nat → Int32) × (Nat → Int32) × (Nat → Int32)
def rnQ (W : Option Stk) (z0 : Nat → Int32) (b : Int32) (z th sz : Nat → Int32) : Prop := zf z0 z ∧ ftB th ∧ ((W = none ∧ b = 0) ∨ ∃ S, W = some S ∧ b = 1 ∧ z 9 = nI S.length ∧ stU th sz 0 S ∧ S.length ≤ 200)
def rn31 (W : Option Stk) (z0 : Nat → Int32) (x : T31) : Prop := match x with
  | (b, z, _, _, _, _, _, _, _, _, _, _, _, _, _, _, _, _, _, _, _, _, _, _, _, _, _, th, sz, _, _) => rnQ W z0 b z th sz
set_option maxHeartbeats 1000000 in
theorem rnQ_0 {W : Option Stk} {z0 z th sz : Nat → Int32} (hW : W = none) (hz : zf z0 z) (h : ftB th) : rnQ W z0 0 z th sz := ⟨hz, h, Or.inl ⟨hW, rfl⟩⟩
set_option maxHeartbeats 1000000 in
theorem rnQ_n {z0 z th sz : Nat → Int32} (hz : zf z0 z) (h : ftB th) : rnQ none z0 0 z th sz := ⟨hz, h, Or.inl ⟨rfl, rfl⟩⟩
/-- a step's rest -/
def rnK (sg : List Int32 → List Int32 → Bool) (f : Nat) (w : List Int32 × Stk × Stk × Nat × List Bool) : Option Stk := if w.2.1.length + w.2.2.1.length ≤ 200 then rnS sg hsF f w.1 w.2.1 w.2.2.1 w.2.2.2.1 w.2.2.2.2 else none
abbrev K19 : Type := Int32 → Int32 → Int32 → Int32 → Int32 → (Nat → Int32) → (Nat → Int32) → (Nat → Int32) → (Nat → Int32) → (Nat → Int32) → (Nat → Int32) → (Nat → Int32) → (Nat → Int32) → (Nat → Int32) → (Nat → Int32) → (Nat → Int32) → (Nat → Int32) → (Nat → Int32) → (Nat → Int32) → (Nat → Int32) → (Nat → Int32) → (Nat → Int32) → (Nat → Int32) → (Nat → Int32) → (Nat → Int32) → (Nat → Int32) → (Nat → Int32) → (Nat → Int32) → (Nat → Int32) → (Nat → Int32) → (Nat → Int32) → (Nat → Int32) → (Nat → Int32) → (Nat → Int32) → (Nat → Int32) → Option T31
/-- what the loop does from a later place on -/
def rnH (K : K19) (sg : List Int32 → List Int32 → Bool) (h1 : Nat → Int32) (a N p f : Nat) (z0 : Nat → Int32) : Prop := ∀ p' S A ops I (z s1 s2 s3 s4 s5 s6 s7 s8 s9 s10 s11 s12 s13 s14 s15 s16 s17 s18 s19 s20 s21 s22 s23 s24 s25 th sz tk mg : Nat → Int32), p < p' → p' ≤ a + N → zf z0 z → rM z th sz S A ops → S.length + A.length ≤ 200 → tkA tk I → I.length + a ≤ p' → ok (K (nI a) (nI N) (nI I.length) (nI (offN I)) (nI p') z s1 s2 s3 s4 s5 s6 s7 s8 s9 s10 s11 s12 s13 s14 s15 s16 s17 s18 s19 s20 s21 s22 s23 s24 s25 th sz tk mg) (rn31 (rnS sg hsF f (bl h1 p' (a + N - p')) S A ops I) z0)
set_option maxHeartbeats 1000000 in
theorem l_r351 {fu : Nat} {st e1 e2 e3 e4 e5 e6 e7 e8 : Nat → Int32} {n1 : Nat} {h1 : Nat → Int32} {K : K19} {sg : List Int32 → List Int32 → Bool} {a N p f : Nat} {z0 : Nat → Int32} (hK : rnH K sg h1 a N p f z0) {p' : Nat} {S A : Stk} {ops : Nat} {I : List Bool} {z th sz tk : Nat → Int32} (s1 s2 s3 s4 s5 s6 s7 s8 s9 s10 s11 s12 s13 s14 s15 s16 s17 s18 s19 s20 s21 s22 s23 s24 s25 mg : Nat → Int32) (hp : p < p') (hp' : p' ≤ a + N) (hz : zf z0 z) (h : rM z th sz S A ops) (ht : tkA tk I) (hI : I.length + a ≤ p') : ok (xb_M_run_351 fu st e1 e2 e3 e4 e5 e6 e7 e8 n1 h1 K (nI a) (nI N) (nI I.length) (nI (offN I)) (nI p') z s1 s2 s3 s4 s5 s6 s7 s8 s9 s10 s11 s12 s13 s14 s15 s16 s17 s18 s19 s20 s21 s22 s23 s24 s25 th sz tk mg) (rn31 (rnK sg f (bl h1 p' (a + N - p'), S, A, ops, I)) z0) := by
  unfold xb_M_run_351
  rw [h.1.1, h.1.2.1]
  have hl := h.2.2.2.2.1
  refine ok_bn (nI_add S.length A.length) ?_
  by_cases c : S.length + A.length ≤ 200
  · have e : rnK sg f (bl h1 p' (a + N - p'), S, A, ops, I) = rnS sg hsF f (bl h1 p' (a + N - p')) S A ops I := if_pos c
    rw [e]
    exact ok_t ((nI_leI (b := 200) (by omega) (by omega)).mpr c) (hK p' S A ops I z s1 s2 s3 s4 s5 s6 s7 s8 s9 s10 s11 s12 s13 s14 s15 s16 s17 s18 s19 s20 s21 s22 s23 s24 s25 th sz tk mg hp hp' hz h c ht hI)
  · have e : rnK sg f (bl h1 p' (a + N - p'), S, A, ops, I) = none := if_neg c
    rw [e]
    exact ok_f (fun e => c ((nI_leI (b := 200) (by omega) (by omega)).mp e)) (ok_some (rnQ_n hz h.2.2.2.1))
/-- an op that's no push and no branch -/
def oS (sg : List Int32 → List Int32 → Bool) (o : Nat) (r : List Int32) (S A : Stk) (ops : Nat) (I : List Bool) : Option (List Int32 × Stk × Stk × Nat × List Bool) := if offB I = true then some (r, S, A, ops, I) else (opS sg hsF o S A ops).map fun w => (r, w.1, w.2.1, w.2.2, I)
set_option maxHeartbeats 1000000 in
theorem l_r335 {fu : Nat} (hfu : 1600 ≤ fu) {st e1 e2 e3 e4 e5 e6 e7 e8 : Nat → Int32} {n1 : Nat} {h1 : Nat → Int32} {K : K19} {sg : List Int32 → List Int32 → Bool} {a N p f : Nat} {z0 : Nat → Int32} (hE : sgE fu st e1 e2 e3 e4 e5 e6 e7 e8 z0 sg) (hK : rnH K sg h1 a N p f z0) (haN : a + N < 2 ^ 30) {p' o : Nat} (ho : o < 256) {S A : Stk} {ops : Nat} {I : List Bool} {z th sz tk : Nat → Int32} (s1 s2 s3 s4 s5 s6 s7 s8 s9 s10 s11 s12 s13 s14 s15 s16 s17 s18 s19 s20 s21 s22 s23 s24 s25 mg : Nat → Int32) (hp : p < p') (hp' : p' ≤ a + N) (hz : zf z0 z) (h : rM z th sz S A ops) (hl : S.length + A.length ≤ 200) (ht : tkA tk I) (hI : I.length + a ≤ p') : ok (xb_M_run_335 fu st e1 e2 e3 e4 e5 e6 e7 e8 n1 h1 K (nI a) (nI N) (nI I.length) (nI (offN I)) (nI p') (nI o) z s1 s2 s3 s4 s5 s6 s7 s8 s9 s10 s11 s12 s13 s14 s15 s16 s17 s18 s19 s20 s21 s22 s23 s24 s25 th sz tk mg) (rn31 ((oS sg o (bl h1 p' (a + N - p')) S A ops I).bind (rnK sg f)) z0) := by
  unfold xb_M_run_335
  have ho' := offN_le I
  by_cases c : offN I = 0
  · have c' := (offN_0 I).mp c
    have e : oS sg o (bl h1 p' (a + N - p')) S A ops I = (opS sg hsF o S A ops).map fun w => (bl h1 p' (a + N - p'), w.1, w.2.1, w.2.2, I) := if_neg (by rw [c']; decide)
    rw [e]
    refine ok_t (by rw [c]; rfl) (ok_bd30 (v_isDone fu hfu sg st e1 e2 e3 e4 e5 e6 e7 e8 hE hz h hl h.2.2.2.2.2 ho s1 s2 s3 s4 s5 s6 s7 s8 s9 s10 s11 s12 s13 s14 s15 s16 s17 s18 s19 s20 s21 s22 s23 s24 s25 mg) (fun v f2 f3 f4 f5 f6 f7 f8 f9 f10 f11 f12 f13 f14 f15 f16 f17 f18 f19 f20 f21 f22 f23 f24 f25 f26 f27 f28 f29 f30 hq => ?_))
    replace hq : opQ (opS sg hsF o S A ops) z v f2 f28 f29 := hq
    obtain ⟨g1, g2, g3⟩ := hq
    rcases g3 with ⟨w1, w2⟩ | ⟨S', A', n', w1, w2, w3⟩
    · rw [w1]
      refine ok_t w2 (ok_some (rnQ_n (zf_t hz g1) g2))
    · rw [w1]
      refine ok_f (by rw [w2]; decide) ?_
      exact l_r351 hK f3 f4 f5 f6 f7 f8 f9 f10 f11 f12 f13 f14 f15 f16 f17 f18 f19 f20 f21 f22 f23 f24 f25 f26 f27 f30 hp hp' (zf_t hz g1) w3 ht hI
  · have c' : offB I = true := by
      cases e : offB I with
      | true => rfl
      | false => exact absurd ((offN_0 I).mpr e) c
    have e : oS sg o (bl h1 p' (a + N - p')) S A ops I = some (bl h1 p' (a + N - p'), S, A, ops, I) := if_pos c'
    rw [e]
    refine ok_f (fun e => c ((nI_eq (b := 0) (by omega) (by omega)).mp e)) ?_
    exact l_r351 hK s1 s2 s3 s4 s5 s6 s7 s8 s9 s10 s11 s12 s13 s14 s15 s16 s17 s18 s19 s20 s21 s22 s23 s24 s25 mg hp hp' hz h ht hI
/-- an op that's no push -/
def qS (sg : List Int32 → List Int32 → Bool) (o : Nat) (r : List Int32) (S A : Stk) (ops : Nat) (I : List Bool) : Option (List Int32 × Stk × Stk × Nat × List Bool) := if o = 99 ∨ o = 100 ∨ o = 103 ∨ o = 104 then (brS o S I).map fun w => (r, w.1, A, ops, w.2) else oS sg o r S A ops I
set_option maxHeartbeats 1000000 in
theorem brS_n {o : Nat} (ho : ¬ (o = 99 ∨ o = 100)) (S : Stk) : brS o S [] = none := if_neg ho
set_option maxHeartbeats 1000000 in
theorem brS_c {o : Nat} (ho : ¬ (o = 99 ∨ o = 100)) (S : Stk) (b : Bool) (I : List Bool) : brS o S (b :: I) = some (S, if o = 103 then (!b) :: I else I) := if_neg ho
set_option maxHeartbeats 1000000 in
theorem brS_o {o : Nat} (ho : o = 99 ∨ o = 100) (S : Stk) {I : List Bool} (h : offB I = true) : brS o S I = some (S, false :: I) := (if_pos ho).trans (if_pos h)
set_option maxHeartbeats 1000000 in
theorem brS_e {o : Nat} (ho : o = 99 ∨ o = 100) {I : List Bool} (h : offB I = false) : brS o [] I = none := (if_pos ho).trans (if_neg (by rw [h]; decide))
set_option maxHeartbeats 1000000 in
theorem brS_x {o : Nat} (ho : o = 99 ∨ o = 100) (x : List Int32) (S : Stk) {I : List Bool} (h : offB I = false) : brS o (x :: S) I = some (S, decide (truB x = decide (o = 99)) :: I) := (if_pos ho).trans (if_neg (by rw [h]; decide))
set_option maxHeartbeats 1000000 in
theorem l_r236 {fu : Nat} {st e1 e2 e3 e4 e5 e6 e7 e8 : Nat → Int32} {n1 : Nat} {h1 : Nat → Int32} {K : K19} {sg : List Int32 → List Int32 → Bool} {a N p f : Nat} {z0 : Nat → Int32} (hK : rnH K sg h1 a N p f z0) (hN : N ≤ 1000) (haN : a + N < 2 ^ 30) {p' : Nat} {S A : Stk} {ops : Nat} {I : List Bool} {z th sz tk : Nat → Int32} (s1 s2 s3 s4 s5 s6 s7 s8 s9 s10 s11 s12 s13 s14 s15 s16 s17 s18 s19 s20 s21 s22 s23 s24 s25 mg : Nat → Int32) (hp : p < p') (hp' : p' ≤ a + N) (hz : zf z0 z) (h : rM z th sz S A ops) (ht : tkA tk I) (hI : I.length + a < p') {b : Bool} {v : Int32} (hv : tf (b = true) v) : ok (xb_M_run_236 fu st e1 e2 e3 e4 e5 e6 e7 e8 n1 h1 K (nI a) (nI N) (nI I.length) (nI (offN I)) (nI p') v z s1 s2 s3 s4 s5 s6 s7 s8 s9 s10 s11 s12 s13 s14 s15 s16 s17 s18 s19 s20 s21 s22 s23 s24 s25 th sz tk mg) (rn31 (rnK sg f (bl h1 p' (a + N - p'), S, A, ops, b :: I)) z0) := by
  unfold xb_M_run_236 xb_M_run_256
  have ho' := offN_le I
  rcases hv with ⟨b1, rfl⟩ | ⟨b1, rfl⟩
  · subst b1
    rw [show vp_nar .boolean (1 : Int32) = (1 : Int32) from rfl, nI_clamp (n := I.length) (by omega)]
    refine ok_gd (inb_nI (by omega) (by decide)) (ok_bnd (ok_bn (nI_1 _) (ok_f (by decide) ?_)))
    have := l_r351 (I := true :: I) (tk := upd tk I.length 1) hK s1 s2 s3 s4 s5 s6 s7 s8 s9 s10 s11 s12 s13 s14 s15 s16 s17 s18 s19 s20 s21 s22 s23 s24 s25 mg hp hp' hz h ⟨pk_us, tkA_u ht (Nat.le_refl _)⟩ (by show I.length + 1 + a ≤ p'; omega) (fu := fu) (n1 := n1) (st := st) (e1 := e1) (e2 := e2) (e3 := e3) (e4 := e4) (e5 := e5) (e6 := e6) (e7 := e7) (e8 := e8)
    rw [show offN (true :: I) = offN I from Nat.zero_add _, show (true :: I).length = I.length + 1 from rfl] at this
    exact this
  · have e : b = false := by cases b with
      | true => exact absurd rfl b1
      | false => rfl
    subst e
    rw [show vp_nar .boolean (0 : Int32) = (0 : Int32) from rfl, nI_clamp (n := I.length) (by omega)]
    refine ok_gd (inb_nI (by omega) (by decide)) (ok_bnd (ok_bn (nI_1 _) (ok_t rfl (ok_bn (nI_1 _) ?_))))
    have := l_r351 (I := false :: I) (tk := upd tk I.length 0) hK s1 s2 s3 s4 s5 s6 s7 s8 s9 s10 s11 s12 s13 s14 s15 s16 s17 s18 s19 s20 s21 s22 s23 s24 s25 mg hp hp' hz h ⟨pk_us, tkA_u ht (Nat.le_refl _)⟩ (by show I.length + 1 + a ≤ p'; omega) (fu := fu) (n1 := n1) (st := st) (e1 := e1) (e2 := e2) (e3 := e3) (e4 := e4) (e5 := e5) (e6 := e6) (e7 := e7) (e8 := e8)
    rw [show offN (false :: I) = offN I + 1 from Nat.add_comm _ _, show (false :: I).length = I.length + 1 from rfl] at this
    exact this
set_option maxHeartbeats 1000000 in
theorem l_r144 {fu : Nat} (hfu : 1600 ≤ fu) {st e1 e2 e3 e4 e5 e6 e7 e8 : Nat → Int32} {n1 : Nat} {h1 : Nat → Int32} {K : K19} {sg : List Int32 → List Int32 → Bool} {a N p f : Nat} {z0 : Nat → Int32} (hE : sgE fu st e1 e2 e3 e4 e5 e6 e7 e8 z0 sg) (hK : rnH K sg h1 a N p f z0) (hN : N ≤ 1000) (haN : a + N < 2 ^ 30) {p' o : Nat} (ho : o < 256) {S A : Stk} {ops : Nat} {I : List Bool} {z th sz tk : Nat → Int32} (s1 s2 s3 s4 s5 s6 s7 s8 s9 s10 s11 s12 s13 s14 s15 s16 s17 s18 s19 s20 s21 s22 s23 s24 s25 mg : Nat → Int32) (hp : p < p') (hp' : p' ≤ a + N) (hz : zf z0 z) (h : rM z th sz S A ops) (hl : S.length + A.length ≤ 200) (ht : tkA tk I) (hI : I.length + a < p') : ok (xb_M_run_144 fu st e1 e2 e3 e4 e5 e6 e7 e8 n1 h1 K (nI a) (nI N) (nI I.length) (nI (offN I)) (nI p') (nI o) z s1 s2 s3 s4 s5 s6 s7 s8 s9 s10 s11 s12 s13 s14 s15 s16 s17 s18 s19 s20 s21 s22 s23 s24 s25 th sz tk mg) (rn31 ((qS sg o (bl h1 p' (a + N - p')) S A ops I).bind (rnK sg f)) z0) := by
  have hT := h.2.2.2.1
  have hof := offN_le I
  have D : ¬ (o = 99 ∨ o = 100 ∨ o = 103 ∨ o = 104) → ok (xb_M_run_335 fu st e1 e2 e3 e4 e5 e6 e7 e8 n1 h1 K (nI a) (nI N) (nI I.length) (nI (offN I)) (nI p') (nI o) z s1 s2 s3 s4 s5 s6 s7 s8 s9 s10 s11 s12 s13 s14 s15 s16 s17 s18 s19 s20 s21 s22 s23 s24 s25 th sz tk mg) (rn31 ((qS sg o (bl h1 p' (a + N - p')) S A ops I).bind (rnK sg f)) z0) := fun hn => by
    have e : qS sg o (bl h1 p' (a + N - p')) S A ops I = oS sg o (bl h1 p' (a + N - p')) S A ops I := if_neg hn
    rw [e]
    exact l_r335 hfu hE hK haN ho s1 s2 s3 s4 s5 s6 s7 s8 s9 s10 s11 s12 s13 s14 s15 s16 s17 s18 s19 s20 s21 s22 s23 s24 s25 mg hp hp' hz h hl ht (by omega)
  have eB : (o = 99 ∨ o = 100 ∨ o = 103 ∨ o = 104) → qS sg o (bl h1 p' (a + N - p')) S A ops I = (brS o S I).map fun w => (bl h1 p' (a + N - p'), w.1, A, ops, w.2) := fun hn => if_pos hn
  unfold xb_M_run_144
  by_cases c1 : o < 99
  · exact ok_t ((nI_ltI (b := 99) (by omega) (by omega)).mpr c1) (D (by omega))
  refine ok_f (fun e => c1 ((nI_ltI (b := 99) (by omega) (by omega)).mp e)) ?_
  by_cases c2 : 104 < o
  · exact ok_t ((nI_ltI (a := 104) (by omega) (by omega)).mpr c2) (D (by omega))
  refine ok_f (fun e => c2 ((nI_ltI (a := 104) (by omega) (by omega)).mp e)) ?_
  refine ok_op (k := 101) ho (by decide) rfl (fun e => D (by omega)) (fun c3 => ?_)
  refine ok_op (k := 102) ho (by decide) rfl (fun e => D (by omega)) (fun c4 => ?_)
  rw [eB (by omega)]
  clear eB D
  by_cases c5 : 103 ≤ o
  · refine ok_t ((nI_leI (a := 103) (by omega) (by omega)).mpr c5) ?_
    cases I with
    | nil =>
      rw [brS_n (by omega)]
      exact ok_t rfl (ok_some (rnQ_n hz hT))
    | cons b I =>
      rw [brS_c (by omega)]
      show ok _ (rn31 (rnK sg f (bl h1 p' (a + N - p'), S, A, ops, if o = 103 then (!b) :: I else I)) z0)
      replace hI : I.length + 1 + a < p' := hI
      have t1 : tk I.length = if b then 1 else 0 := ht.1
      refine ok_f (fun e => by have := (nI_eq (a := I.length + 1) (b := 0) (by omega) (by omega)).mp e; omega) (ok_bn (e' := nI I.length) (nI_sb (a := I.length + 1) (b := 1) (by omega)) ?_)
      rw [nI_clamp (n := I.length) (by omega), t1]
      refine ok_gd (inb_nI (by omega) (by decide)) (ok_bnd ?_)
      refine ok_op (k := 104) ho (by decide) rfl (fun e => ?_) (fun c6 => ?_)
      · rw [if_neg (show ¬ o = 103 by omega)]
        refine ok_bn (e' := nI I.length) (m1_e (a := I.length + 1) (by omega)) ?_
        cases b with
        | true =>
          refine ok_f (by decide) ?_
          unfold xb_M_run_332
          rw [show offN (true :: I) = offN I from Nat.zero_add _]
          exact l_r351 hK s1 s2 s3 s4 s5 s6 s7 s8 s9 s10 s11 s12 s13 s14 s15 s16 s17 s18 s19 s20 s21 s22 s23 s24 s25 mg hp hp' hz h ht.2 (by omega)
        | false =>
          refine ok_t rfl ?_
          unfold xb_M_run_332
          rw [show offN (false :: I) = offN I + 1 from Nat.add_comm _ _]
          refine ok_bn (e' := nI (offN I)) (m1_e (a := offN I + 1) (by omega)) ?_
          exact l_r351 hK s1 s2 s3 s4 s5 s6 s7 s8 s9 s10 s11 s12 s13 s14 s15 s16 s17 s18 s19 s20 s21 s22 s23 s24 s25 mg hp hp' hz h ht.2 (by omega)
      · have c7 : o = 103 := by omega
        rw [if_pos c7]
        refine ok_bn (e' := nI I.length) (nI_sb (a := I.length + 1) (b := 1) (by omega)) ?_
        cases b with
        | true =>
          refine ok_f (by decide) ?_
          unfold xb_M_run_316 xb_M_run_329 xb_M_run_332
          rw [nI_clamp (n := I.length) (by omega), show vp_nar .boolean (0 : Int32) = (0 : Int32) from rfl]
          refine ok_gd (inb_nI (by omega) (by decide)) (ok_bnd (ok_f (by decide) (ok_bn (e' := nI (offN I + 1)) ?_ ?_)))
          · rw [show offN (true :: I) = offN I from Nat.zero_add _]
            exact nI_1 _
          have := l_r351 (I := false :: I) (tk := upd tk I.length 0) hK s1 s2 s3 s4 s5 s6 s7 s8 s9 s10 s11 s12 s13 s14 s15 s16 s17 s18 s19 s20 s21 s22 s23 s24 s25 mg hp hp' hz h ⟨pk_us, tkA_u ht.2 (Nat.le_refl _)⟩ (by show I.length + 1 + a ≤ p'; omega) (fu := fu) (n1 := n1) (st := st) (e1 := e1) (e2 := e2) (e3 := e3) (e4 := e4) (e5 := e5) (e6 := e6) (e7 := e7) (e8 := e8)
          rw [show offN (false :: I) = offN I + 1 from Nat.add_comm _ _] at this
          exact this
        | false =>
          refine ok_t rfl ?_
          unfold xb_M_run_316 xb_M_run_329 xb_M_run_332
          rw [nI_clamp (n := I.length) (by omega), show vp_nar .boolean (1 : Int32) = (1 : Int32) from rfl]
          refine ok_gd (inb_nI (by omega) (by decide)) (ok_bnd (ok_t rfl (ok_bn (e' := nI (offN I)) ?_ ?_)))
          · rw [show offN (false :: I) = offN I + 1 from Nat.add_comm _ _]
            exact m1_e (a := offN I + 1) (by omega)
          have := l_r351 (I := true :: I) (tk := upd tk I.length 1) hK s1 s2 s3 s4 s5 s6 s7 s8 s9 s10 s11 s12 s13 s14 s15 s16 s17 s18 s19 s20 s21 s22 s23 s24 s25 mg hp hp' hz h ⟨pk_us, tkA_u ht.2 (Nat.le_refl _)⟩ (by show I.length + 1 + a ≤ p'; omega) (fu := fu) (n1 := n1) (st := st) (e1 := e1) (e2 := e2) (e3 := e3) (e4 := e4) (e5 := e5) (e6 := e6) (e7 := e7) (e8 := e8)
          rw [show offN (true :: I) = offN I from Nat.zero_add _] at this
          exact this
  · refine ok_f (fun e => c5 ((nI_leI (a := 103) (by omega) (by omega)).mp e)) ?_
    have ho2 : o = 99 ∨ o = 100 := by omega
    by_cases c : offN I = 0
    · have c' := (offN_0 I).mp c
      refine ok_t (by rw [c]; rfl) ?_
      have h9 : z 9 = nI S.length := h.1.1
      rw [h9]
      cases S with
      | nil =>
        rw [brS_e ho2 c']
        exact ok_t rfl (ok_some (rnQ_n hz hT))
      | cons x S =>
        rw [brS_x ho2 x S c']
        replace hl : S.length + 1 + A.length ≤ 200 := hl
        have s0 := h.2.1.1
        rw [Nat.zero_add] at s0
        have hS := h.2.1.2
        have e9 : nI (S.length + 1) - (1 : Int32) = nI S.length := nI_sb (b := 1) (by omega)
        refine ok_f (fun e => by have := (nI_eq (a := S.length + 1) (b := 0) (by omega) (by omega)).mp e; omega) (ok_bn e9 (ok_bnd ?_))
        rw [show (upd z 9 (nI S.length)) 9 = nI S.length from pk_us]
        have hR : rM (upd z 9 (nI S.length)) th sz S A ops := rM_d (z' := upd z 9 (nI S.length)) h hS (by omega) pk_us (pk_un (by decide)) (pk_un (by decide))
        refine ok_bd1 (v_isTrue1 fu (by omega) _ th sz (by omega) s0) (fun v hv => ?_)
        unfold xb_M_run_226 xb_M_run_234
        have G : ∀ y0 : Int32, tf (o = 99) y0 → ok (if v = y0 then xb_M_run_236 fu st e1 e2 e3 e4 e5 e6 e7 e8 n1 h1 K (nI a) (nI N) (nI I.length) (nI (offN I)) (nI p') (1 : Int32) (upd z 9 (nI S.length)) s1 s2 s3 s4 s5 s6 s7 s8 s9 s10 s11 s12 s13 s14 s15 s16 s17 s18 s19 s20 s21 s22 s23 s24 s25 th sz tk mg else xb_M_run_236 fu st e1 e2 e3 e4 e5 e6 e7 e8 n1 h1 K (nI a) (nI N) (nI I.length) (nI (offN I)) (nI p') (0 : Int32) (upd z 9 (nI S.length)) s1 s2 s3 s4 s5 s6 s7 s8 s9 s10 s11 s12 s13 s14 s15 s16 s17 s18 s19 s20 s21 s22 s23 s24 s25 th sz tk mg) (rn31 (rnK sg f (bl h1 p' (a + N - p'), S, A, ops, decide (truB x = decide (o = 99)) :: I)) z0) := fun y0 hy => by
          have iv := tf_iff hv hy
          by_cases q : v = y0
          · refine ok_t q (l_r236 hK hN haN s1 s2 s3 s4 s5 s6 s7 s8 s9 s10 s11 s12 s13 s14 s15 s16 s17 s18 s19 s20 s21 s22 s23 s24 s25 mg hp hp' (zf_t hz (zf_9 _)) hR ht hI (tf_1 ?_))
            have := iv.mp q
            cases e : truB x with
            | true => rw [e] at this; exact decide_eq_true (decide_eq_true (this.mp rfl)).symm
            | false => rw [e] at this; exact decide_eq_true (decide_eq_false (fun w => absurd (this.mpr w) (by decide))).symm
          · refine ok_f q (l_r236 hK hN haN s1 s2 s3 s4 s5 s6 s7 s8 s9 s10 s11 s12 s13 s14 s15 s16 s17 s18 s19 s20 s21 s22 s23 s24 s25 mg hp hp' (zf_t hz (zf_9 _)) hR ht hI (tf_0 ?_))
            intro w
            have w := of_decide_eq_true w
            refine q (iv.mpr ⟨fun t => ?_, fun t => ?_⟩)
            · rw [t] at w; exact of_decide_eq_true w.symm
            · rw [w]; exact decide_eq_true t
        refine ok_op (k := 99) ho (by decide) rfl (fun e => ?_) (fun e => ?_)
        · exact G 1 (tf_1 e)
        · exact G 0 (tf_0 e)
    · have c' : offB I = true := by
        cases e : offB I with
        | true => rfl
        | false => exact absurd ((offN_0 I).mpr e) c
      rw [brS_o ho2 S c']
      refine ok_f (fun e => c ((nI_eq (b := 0) (by omega) (by omega)).mp e)) ?_
      exact l_r236 hK hN haN s1 s2 s3 s4 s5 s6 s7 s8 s9 s10 s11 s12 s13 s14 s15 s16 s17 s18 s19 s20 s21 s22 s23 s24 s25 mg hp hp' hz h ht hI (tf_0 (by decide))
