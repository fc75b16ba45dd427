-- the reference's machine: a script, two scripts
def puS (l : Nat) (r : List Int32) (S A : Stk) (ops : Nat) (I : List Bool) : Option (List Int32 × Stk × Stk × Nat × List Bool) := if l ≤ r.length then some (r.drop l, if offB I then S else r.take l :: S, A, ops, I) else none
set_option maxHeartbeats 1000000 in
theorem l_r81 {fu : Nat} {st e1 e2 e3 e4 e5 e6 e7 e8 : Nat → Int32} {n1 : Nat} {h1 : Nat → Int32} (hn1 : n1 < 2 ^ 30) (hf1 : ftB h1) {K : K19} {sg : List Int32 → List Int32 → Bool} {a N p f : Nat} {z0 : Nat → Int32} (hK : rnH K sg h1 a N p f z0) (haN : a + N ≤ n1) {p' l : Nat} (hl : l < 256) {S A : Stk} {ops : Nat} {I : List Bool} {z th sz tk : Nat → Int32} (s1 s2 s3 s4 s5 s6 s7 s8 s9 s10 s11 s12 s13 s14 s15 s16 s17 s18 s19 s20 s21 s22 s23 s24 s25 mg : Nat → Int32) (hp : p < p') (hp' : p' ≤ a + N) (hz : zf z0 z) (h : rM z th sz S A ops) (hSA : S.length + A.length ≤ 200) (ht : tkA tk I) (hI : I.length + a ≤ p') : ok (xb_M_run_81 fu st e1 e2 e3 e4 e5 e6 e7 e8 n1 h1 K (nI a) (nI N) (nI I.length) (nI (offN I)) (nI p') (nI l) z s1 s2 s3 s4 s5 s6 s7 s8 s9 s10 s11 s12 s13 s14 s15 s16 s17 s18 s19 s20 s21 s22 s23 s24 s25 th sz tk mg) (rn31 ((puS l (bl h1 p' (a + N - p')) S A ops I).bind (rnK sg f)) z0) := by
  unfold xb_M_run_81 xb_M_run_108
  have hof := offN_le I
  refine ok_bn (nI_add a N) ?_
  rw [nI_sb hp']
  by_cases c : l ≤ a + N - p'
  · have e : puS l (bl h1 p' (a + N - p')) S A ops I = some (bl h1 (p' + l) (a + N - (p' + l)), if offB I then S else bl h1 p' l :: S, A, ops, I) := by
      unfold puS
      rw [bl_len, if_pos c, bl_drop, bl_take _ _ _ _ c, Nat.sub_sub]
    rw [e]
    show ok _ (rn31 (rnK sg f (bl h1 (p' + l) (a + N - (p' + l)), if offB I then S else bl h1 p' l :: S, A, ops, I)) z0)
    refine ok_t ((nI_leI (by omega) (by omega)).mpr c) ?_
    by_cases d : offN I = 0
    · have d' := (offN_0 I).mp d
      rw [d', show (if (false : Bool) = true then S else bl h1 p' l :: S) = bl h1 p' l :: S from rfl]
      refine ok_t (by rw [d]; rfl) (ok_bd3 (v_push fu n1 (by omega) h1 z th sz h.2.2.2.1 (by omega) (by omega) (d := S.length) (by omega) h.1.1 (fun i _ => hf1 _)) (fun f1 f2 f3 w => ok_bn (nI_add p' l) ?_))
      obtain ⟨w1, w2⟩ := w
      replace w1 : f1 = upd z 9 (nI (S.length + 1)) := w1
      replace w2 : wS th sz S.length (bl h1 p' l) f2 f3 := w2
      subst w1
      exact l_r351 hK s1 s2 s3 s4 s5 s6 s7 s8 s9 s10 s11 s12 s13 s14 s15 s16 s17 s18 s19 s20 s21 s22 s23 s24 s25 mg (by omega) (by omega) (zf_t hz (zf_9 _)) (rM_w (z' := upd z 9 (nI (S.length + 1))) h h.2.1 (by omega) w2 pk_us (pk_un (by decide)) (pk_un (by decide))) ht (by omega)
    · have d' : offB I = true := by
        cases e : offB I with
        | true => rfl
        | false => exact absurd ((offN_0 I).mpr e) d
      rw [d', show (if (true : Bool) = true then S else bl h1 p' l :: S) = S from rfl]
      refine ok_f (fun e => d ((nI_eq (b := 0) (by omega) (by omega)).mp e)) (ok_bn (nI_add p' l) ?_)
      exact l_r351 hK s1 s2 s3 s4 s5 s6 s7 s8 s9 s10 s11 s12 s13 s14 s15 s16 s17 s18 s19 s20 s21 s22 s23 s24 s25 mg (by omega) (by omega) hz h ht (by omega)
  · have e : puS l (bl h1 p' (a + N - p')) S A ops I = none := by
      unfold puS
      rw [bl_len, if_neg c]
    rw [e]
    exact ok_f (fun e => c ((nI_leI (by omega) (by omega)).mp e)) (ok_some (rnQ_n hz h.2.2.2.1))
-- a step's cases
set_option maxHeartbeats 1000000 in
theorem stS_lt {sg : List Int32 → List Int32 → Bool} {o : Int32} (h : By o < 76) (r : List Int32) (S A : Stk) (ops : Nat) (I : List Bool) : stS sg hsF o r S A ops I = puS (By o) r S A ops I := if_pos h
set_option maxHeartbeats 1000000 in
theorem stS_76n {sg : List Int32 → List Int32 → Bool} {o : Int32} (h : By o = 76) (S A : Stk) (ops : Nat) (I : List Bool) : stS sg hsF o [] S A ops I = none := (if_neg (by omega)).trans (if_pos h)
set_option maxHeartbeats 1000000 in
theorem stS_76 {sg : List Int32 → List Int32 → Bool} {o : Int32} (h : By o = 76) (m : Int32) (r : List Int32) (S A : Stk) (ops : Nat) (I : List Bool) : stS sg hsF o (m :: r) S A ops I = puS (By m) r S A ops I := (if_neg (by omega)).trans (if_pos h)
set_option maxHeartbeats 1000000 in
theorem stS_gt {sg : List Int32 → List Int32 → Bool} {o : Int32} (h : 76 < By o) (r : List Int32) (S A : Stk) (ops : Nat) (I : List Bool) : stS sg hsF o r S A ops I = if 201 < (if 96 < By o then ops + 1 else ops) then none else qS sg (By o) r S A (if 96 < By o then ops + 1 else ops) I := by
  refine (if_neg (by omega)).trans ((if_neg (by omega)).trans ?_)
  by_cases c : 201 < (if 96 < By o then ops + 1 else ops)
  · rw [if_pos c, if_pos c]
  · rw [if_neg c, if_neg c]
    unfold qS
    by_cases d : By o = 99 ∨ By o = 100 ∨ By o = 103 ∨ By o = 104
    · rw [if_pos d, if_pos d, if_pos (show 96 < By o by omega)]
    · rw [if_neg d, if_neg d]
      rfl
set_option maxHeartbeats 1000000 in
theorem rnS_nil (sg : List Int32 → List Int32 → Bool) (f : Nat) (S A : Stk) (ops : Nat) (I : List Bool) : rnS sg hsF (f + 1) [] S A ops I = if I = [] then some S else none := rfl
set_option maxHeartbeats 1000000 in
theorem rnS_cons (sg : List Int32 → List Int32 → Bool) (f : Nat) (o : Int32) (r : List Int32) (S A : Stk) (ops : Nat) (I : List Bool) : rnS sg hsF (f + 1) (o :: r) S A ops I = (stS sg hsF o r S A ops I).bind (rnK sg f) := rfl
set_option maxHeartbeats 1000000 in
theorem l_rn19 (fu : Nat) (hfu : 1600 ≤ fu) (sg : List Int32 → List Int32 → Bool) (st e1 e2 e3 e4 e5 e6 e7 e8 : Nat → Int32) {z0 : Nat → Int32} (hE : sgE fu st e1 e2 e3 e4 e5 e6 e7 e8 z0 sg) {n1 : Nat} {h1 : Nat → Int32} (hn1 : n1 < 2 ^ 30) (hf1 : ftB h1) {a N : Nat} (hN : N ≤ 1000) (haN : a + N ≤ n1) : ∀ n f p S A ops I (z s1 s2 s3 s4 s5 s6 s7 s8 s9 s10 s11 s12 s13 s14 s15 s16 s17 s18 s19 s20 s21 s22 s23 s24 s25 th sz tk mg : Nat → Int32), a ≤ p → p ≤ a + N → a + N - p < n → a + N - p < f → zf z0 z → rM z th sz S A ops → S.length + A.length ≤ 200 → tkA tk I → I.length + a ≤ p → ok (x_M_run_19 fu st e1 e2 e3 e4 e5 e6 e7 e8 n1 h1 n (nI a) (nI N) (nI I.length) (nI (offN I)) (nI p) z s1 s2 s3 s4 s5 s6 s7 s8 s9 s10 s11 s12 s13 s14 s15 s16 s17 s18 s19 s20 s21 s22 s23 s24 s25 th sz tk mg) (rn31 (rnS sg hsF f (bl h1 p (a + N - p)) S A ops I) z0) := by
  intro n
  induction n with
  | zero => intro f p S A ops I z s1 s2 s3 s4 s5 s6 s7 s8 s9 s10 s11 s12 s13 s14 s15 s16 s17 s18 s19 s20 s21 s22 s23 s24 s25 th sz tk mg h1 h2 h3; omega
  | succ n ih =>
    intro f p S A ops I z s1 s2 s3 s4 s5 s6 s7 s8 s9 s10 s11 s12 s13 s14 s15 s16 s17 s18 s19 s20 s21 s22 s23 s24 s25 th sz tk mg ha hp hn hf hz h hl ht hI
    have hops := h.2.2.2.2.2
    obtain ⟨f, rfl⟩ : ∃ m, f = m + 1 := ⟨f - 1, by omega⟩
    have hT := h.2.2.2.1
    show ok (xb_M_run_19 fu st e1 e2 e3 e4 e5 e6 e7 e8 n1 h1 (x_M_run_19 fu st e1 e2 e3 e4 e5 e6 e7 e8 n1 h1 n) (nI a) (nI N) (nI I.length) (nI (offN I)) (nI p) z s1 s2 s3 s4 s5 s6 s7 s8 s9 s10 s11 s12 s13 s14 s15 s16 s17 s18 s19 s20 s21 s22 s23 s24 s25 th sz tk mg) _
    unfold xb_M_run_19
    rw [nI_add a N]
    by_cases c : a + N ≤ p
    · refine ok_t ((nI_leI (by omega) (by omega)).mpr c) ?_
      rw [show a + N - p = 0 from by omega, bl_0, rnS_nil]
      cases I with
      | nil => exact ok_t rfl (ok_some ⟨hz, hT, Or.inr ⟨S, if_pos rfl, rfl, h.1.1, h.2.1, by omega⟩⟩)
      | cons b I =>
        replace hI : I.length + 1 + a ≤ p := hI
        exact ok_f (fun e => by have := (nI_eq (a := I.length + 1) (b := 0) (by omega) (by omega)).mp e; omega) (ok_some (rnQ_0 (if_neg (by simp)) hz hT))
    refine ok_f (fun e => c ((nI_leI (by omega) (by omega)).mp e)) (ok_gd (inb_nI (by omega) (by omega)) (ok_bnd ?_))
    rw [nI_clamp (n := p) (by omega), and255]
    refine ok_bnd (ok_bn (nI_1 p) ?_)
    obtain ⟨k, hk⟩ : ∃ k, a + N - p = k + 1 := ⟨a + N - p - 1, by omega⟩
    have ek : k = a + N - (p + 1) := by omega
    rw [hk, bl_s, rnS_cons, ek]
    have ho := By_lt (h1 p)
    have hK : rnH (x_M_run_19 fu st e1 e2 e3 e4 e5 e6 e7 e8 n1 h1 n) sg h1 a N p f z0 := fun p' S A ops I z s1 s2 s3 s4 s5 s6 s7 s8 s9 s10 s11 s12 s13 s14 s15 s16 s17 s18 s19 s20 s21 s22 s23 s24 s25 th sz tk mg q1 q2 q3 q4 q5 q6 q7 => ih f p' S A ops I z s1 s2 s3 s4 s5 s6 s7 s8 s9 s10 s11 s12 s13 s14 s15 s16 s17 s18 s19 s20 s21 s22 s23 s24 s25 th sz tk mg (by omega) q2 (by omega) (by omega) q3 q4 q5 q6 q7
    by_cases c1 : 76 < By (h1 p)
    · rw [stS_gt c1]
      refine ok_t ((nI_ltI (a := 76) (by omega) (by omega)).mpr c1) ?_
      by_cases c2 : By (h1 p) ≤ 96
      · rw [if_neg (show ¬ 96 < By (h1 p) by omega), if_neg (show ¬ 201 < ops by omega)]
        exact ok_t ((nI_leI (b := 96) (by omega) (by omega)).mpr c2) (l_r144 hfu hE hK hN (by omega) ho s1 s2 s3 s4 s5 s6 s7 s8 s9 s10 s11 s12 s13 s14 s15 s16 s17 s18 s19 s20 s21 s22 s23 s24 s25 mg (by omega) (by omega) hz h hl ht (by omega))
      · rw [if_pos (show 96 < By (h1 p) by omega)]
        refine ok_f (fun e => c2 ((nI_leI (b := 96) (by omega) (by omega)).mp e)) ?_
        rw [h.1.2.2]
        refine ok_bn (nI_1 ops) (ok_bnd ?_)
        have hz' : zf z0 (upd z 11 (nI (ops + 1))) := zf_t hz (zf_11 _)
        by_cases c3 : 201 < ops + 1
        · rw [if_pos c3]
          exact ok_f (fun e => by have := (nI_leI (b := 201) (by omega) (by omega)).mp e; omega) (ok_some (rnQ_n hz' hT))
        · rw [if_neg c3]
          have hR : rM (upd z 11 (nI (ops + 1))) th sz S A (ops + 1) := ⟨⟨by rw [pk_un (by decide)]; exact h.1.1, by rw [pk_un (by decide)]; exact h.1.2.1, pk_us⟩, h.2.1, h.2.2.1, hT, h.2.2.2.2.1, by omega⟩
          exact ok_t ((nI_leI (b := 201) (by omega) (by omega)).mpr (by omega)) (l_r144 hfu hE hK hN (by omega) ho s1 s2 s3 s4 s5 s6 s7 s8 s9 s10 s11 s12 s13 s14 s15 s16 s17 s18 s19 s20 s21 s22 s23 s24 s25 mg (by omega) (by omega) hz' hR hl ht (by omega))
    refine ok_f (fun e => c1 ((nI_ltI (a := 76) (by omega) (by omega)).mp e)) ?_
    refine ok_op (k := 76) ho (by decide) rfl (fun e => ?_) (fun e => ?_)
    · by_cases c4 : p + 1 = a + N
      · rw [show a + N - (p + 1) = 0 from by omega, bl_0, stS_76n e]
        exact ok_t (by rw [c4]) (ok_some (rnQ_n hz hT))
      · refine ok_f (fun e => c4 ((nI_eq (by omega) (by omega)).mp e)) (ok_gd (inb_nI (by omega) (by omega)) (ok_bnd ?_))
        rw [nI_clamp (n := p + 1) (by omega), and255]
        refine ok_bnd (ok_bn (nI_1 (p + 1)) ?_)
        rw [show a + N - (p + 1) = (a + N - (p + 1 + 1)) + 1 from by omega, bl_s, stS_76 e]
        exact l_r81 hn1 hf1 hK haN (By_lt _) s1 s2 s3 s4 s5 s6 s7 s8 s9 s10 s11 s12 s13 s14 s15 s16 s17 s18 s19 s20 s21 s22 s23 s24 s25 mg (by omega) (by omega) hz h hl ht (by omega)
    · rw [stS_lt (by omega)]
      exact l_r81 hn1 hf1 hK haN ho s1 s2 s3 s4 s5 s6 s7 s8 s9 s10 s11 s12 s13 s14 s15 s16 s17 s18 s19 s20 s21 s22 s23 s24 s25 mg (by omega) (by omega) hz h hl ht (by omega)
