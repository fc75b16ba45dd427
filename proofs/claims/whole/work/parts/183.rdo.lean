-- the reference's machine: one op
set_option maxHeartbeats 1000000 in
theorem ok_op {α : Type} {o k : Nat} {c : Int32} {x y : Option α} {P : α → Prop} (ho : o < 256) (hk : k < 256) (hc : nI k = c) (h1 : o = k → ok x P) (h2 : o ≠ k → ok y P) : ok (if nI o = c then x else y) P := by
  subst hc
  by_cases e : o = k
  · exact ok_t (by rw [e]) (h1 e)
  · exact ok_f (fun q => e ((nI_eq (by omega) (by omega)).mp q)) (h2 e)
set_option maxHeartbeats 1000000 in
theorem l_d992 (fu : Nat) (hfu : 1600 ≤ fu) (sg : List Int32 → List Int32 → Bool) (st e1 e2 e3 e4 e5 e6 e7 e8 : Nat → Int32) {z0 z th sz : Nat → Int32} (hE : sgE fu st e1 e2 e3 e4 e5 e6 e7 e8 z0 sg) (hz : zf z0 z) {S A : Stk} {ops o : Nat} (h : rM z th sz S A ops) (hl : S.length + A.length ≤ 200) (hops : ops ≤ 201) (ho : o = 174 ∨ o = 175) (s1 s2 s3 s4 s5 s6 s7 s8 s9 s10 s11 s12 s13 s14 s15 s16 s17 s18 s19 s20 s21 s22 s23 s24 s25 mg : Nat → Int32) : ok (xb_M_isDone_992 fu st e1 e2 e3 e4 e5 e6 e7 e8 (nI o) z s1 s2 s3 s4 s5 s6 s7 s8 s9 s10 s11 s12 s13 s14 s15 s16 s17 s18 s19 s20 s21 s22 s23 s24 s25 th sz mg) (op30 (opS sg hsF o S A ops) z) := by
  unfold xb_M_isDone_992 xb_M_isDone_1005
  have q0 : opS sg hsF 174 S A ops = mnS sg 0 S A ops := by
    show (cmS sg S ops).map (fun w => (bT w.2.2 :: w.1, A, ops + w.2.1)) = (cmS sg S ops).bind fun w => if (0 : Int32) = 0 then some (bT w.2.2 :: w.1, A, ops + w.2.1) else _
    cases cmS sg S ops <;> rfl
  have q1 : opS sg hsF 175 S A ops = mnS sg 1 S A ops := by
    show ((cmS sg S ops).bind fun w => if w.2.2 then some (w.1, A, ops + w.2.1) else none) = (cmS sg S ops).bind fun w => if (1 : Int32) = 0 then _ else if w.2.2 = true then some (w.1, A, ops + w.2.1) else none
    cases cmS sg S ops with
    | none => rfl
    | some w => rw [Option.bind_some, Option.bind_some, if_neg (show ¬ (1 : Int32) = 0 by decide)]
  rcases ho with rfl | rfl
  · rw [q0]
    refine ok_f (by decide) (ok_bd30 (v_many fu hfu sg st e1 e2 e3 e4 e5 e6 e7 e8 hE hz h hl hops 0 s1 s2 s3 s4 s5 s6 s7 s8 s9 s10 s11 s12 s13 s14 s15 s16 s17 s18 s19 s20 s21 s22 s23 s24 s25 mg) (fun v f2 f3 f4 f5 f6 f7 f8 f9 f10 f11 f12 f13 f14 f15 f16 f17 f18 f19 f20 f21 f22 f23 f24 f25 f26 f27 f28 f29 f30 hq => ?_))
    replace hq : opQ (mnS sg 0 S A ops) z v f2 f28 f29 := hq
    exact ok_gd (opQ_isb hq) (ok_some hq)
  · rw [q1]
    refine ok_t (by decide) (ok_bd30 (v_many fu hfu sg st e1 e2 e3 e4 e5 e6 e7 e8 hE hz h hl hops 1 s1 s2 s3 s4 s5 s6 s7 s8 s9 s10 s11 s12 s13 s14 s15 s16 s17 s18 s19 s20 s21 s22 s23 s24 s25 mg) (fun v f2 f3 f4 f5 f6 f7 f8 f9 f10 f11 f12 f13 f14 f15 f16 f17 f18 f19 f20 f21 f22 f23 f24 f25 f26 f27 f28 f29 f30 hq => ?_))
    replace hq : opQ (mnS sg 1 S A ops) z v f2 f28 f29 := hq
    exact ok_gd (opQ_isb hq) (ok_some hq)
set_option maxHeartbeats 1000000 in
theorem l_d49 (fu : Nat) (hfu : 1600 ≤ fu) (sg : List Int32 → List Int32 → Bool) (st e1 e2 e3 e4 e5 e6 e7 e8 : Nat → Int32) {z0 z th sz : Nat → Int32} (hE : sgE fu st e1 e2 e3 e4 e5 e6 e7 e8 z0 sg) (hz : zf z0 z) {S A : Stk} {ops o : Nat} (h : rM z th sz S A ops) (hl : S.length + A.length ≤ 200) (hops : ops ≤ 201) (ho : o < 256) (hn1 : ¬ (o = 79 ∨ 81 ≤ o ∧ o ≤ 96)) (hn2 : ¬ (139 ≤ o ∧ o ≤ 165)) (s1 s2 s3 s4 s5 s6 s7 s8 s9 s10 s11 s12 s13 s14 s15 s16 s17 s18 s19 s20 s21 s22 s23 s24 s25 mg : Nat → Int32) : ok (xb_M_isDone_49 fu st e1 e2 e3 e4 e5 e6 e7 e8 (nI o) z s1 s2 s3 s4 s5 s6 s7 s8 s9 s10 s11 s12 s13 s14 s15 s16 s17 s18 s19 s20 s21 s22 s23 s24 s25 th sz mg) (op30 (opS sg hsF o S A ops) z) := by
  unfold xb_M_isDone_49
  have hT := h.2.2.2.1
  refine ok_op (k := 97) ho (by decide) rfl (fun e => by subst e; exact l_d97 fu hfu sg h hl s1 s2 s3 s4 s5 s6 s7 s8 s9 s10 s11 s12 s13 s14 s15 s16 s17 s18 s19 s20 s21 s22 s23 s24 s25 mg) (fun n97 => ?_)
  refine ok_op (k := 98) ho (by decide) rfl (fun e => by subst e; exact ok_some (opQ_0 rfl (zf_r _) hT)) (fun n98 => ?_)
  refine ok_op (k := 99) ho (by decide) rfl (fun e => by subst e; exact ok_some (opQ_0 rfl (zf_r _) hT)) (fun n99 => ?_)
  refine ok_op (k := 100) ho (by decide) rfl (fun e => by subst e; exact ok_some (opQ_0 rfl (zf_r _) hT)) (fun n100 => ?_)
  refine ok_op (k := 101) ho (by decide) rfl (fun e => by subst e; exact ok_some (opQ_0 rfl (zf_r _) hT)) (fun n101 => ?_)
  refine ok_op (k := 102) ho (by decide) rfl (fun e => by subst e; exact ok_some (opQ_0 rfl (zf_r _) hT)) (fun n102 => ?_)
  refine ok_op (k := 103) ho (by decide) rfl (fun e => by subst e; exact ok_some (opQ_0 rfl (zf_r _) hT)) (fun n103 => ?_)
  refine ok_op (k := 104) ho (by decide) rfl (fun e => by subst e; exact ok_some (opQ_0 rfl (zf_r _) hT)) (fun n104 => ?_)
  refine ok_op (k := 105) ho (by decide) rfl (fun e => by subst e; exact l_d105 fu hfu sg h hl s1 s2 s3 s4 s5 s6 s7 s8 s9 s10 s11 s12 s13 s14 s15 s16 s17 s18 s19 s20 s21 s22 s23 s24 s25 mg) (fun n105 => ?_)
  refine ok_op (k := 106) ho (by decide) rfl (fun e => by subst e; exact ok_some (opQ_0 rfl (zf_r _) hT)) (fun n106 => ?_)
  refine ok_op (k := 107) ho (by decide) rfl (fun e => by subst e; exact l_d107 fu hfu sg h hl s1 s2 s3 s4 s5 s6 s7 s8 s9 s10 s11 s12 s13 s14 s15 s16 s17 s18 s19 s20 s21 s22 s23 s24 s25 mg) (fun n107 => ?_)
  refine ok_op (k := 108) ho (by decide) rfl (fun e => by subst e; exact l_d108 fu hfu sg h hl s1 s2 s3 s4 s5 s6 s7 s8 s9 s10 s11 s12 s13 s14 s15 s16 s17 s18 s19 s20 s21 s22 s23 s24 s25 mg) (fun n108 => ?_)
  refine ok_op (k := 109) ho (by decide) rfl (fun e => by subst e; exact l_d109 fu hfu sg h hl s1 s2 s3 s4 s5 s6 s7 s8 s9 s10 s11 s12 s13 s14 s15 s16 s17 s18 s19 s20 s21 s22 s23 s24 s25 mg) (fun n109 => ?_)
  refine ok_op (k := 110) ho (by decide) rfl (fun e => by subst e; exact l_d110 fu hfu sg h hl s1 s2 s3 s4 s5 s6 s7 s8 s9 s10 s11 s12 s13 s14 s15 s16 s17 s18 s19 s20 s21 s22 s23 s24 s25 mg) (fun n110 => ?_)
  refine ok_op (k := 111) ho (by decide) rfl (fun e => by subst e; exact ok_some (opQ_0 rfl (zf_r _) hT)) (fun n111 => ?_)
  refine ok_op (k := 112) ho (by decide) rfl (fun e => by subst e; exact ok_some (opQ_0 rfl (zf_r _) hT)) (fun n112 => ?_)
  refine ok_op (k := 113) ho (by decide) rfl (fun e => by subst e; exact ok_some (opQ_0 rfl (zf_r _) hT)) (fun n113 => ?_)
  refine ok_op (k := 114) ho (by decide) rfl (fun e => by subst e; exact ok_some (opQ_0 rfl (zf_r _) hT)) (fun n114 => ?_)
  refine ok_op (k := 115) ho (by decide) rfl (fun e => by subst e; exact l_d115 fu hfu sg st e1 e2 e3 e4 e5 e6 e7 e8 h hl s1 s2 s3 s4 s5 s6 s7 s8 s9 s10 s11 s12 s13 s14 s15 s16 s17 s18 s19 s20 s21 s22 s23 s24 s25 mg) (fun n115 => ?_)
  refine ok_op (k := 116) ho (by decide) rfl (fun e => by subst e; exact l_d116 fu hfu sg h hl s1 s2 s3 s4 s5 s6 s7 s8 s9 s10 s11 s12 s13 s14 s15 s16 s17 s18 s19 s20 s21 s22 s23 s24 s25 mg) (fun n116 => ?_)
  refine ok_op (k := 117) ho (by decide) rfl (fun e => by subst e; exact l_d117 fu hfu sg h hl s1 s2 s3 s4 s5 s6 s7 s8 s9 s10 s11 s12 s13 s14 s15 s16 s17 s18 s19 s20 s21 s22 s23 s24 s25 mg) (fun n117 => ?_)
  refine ok_op (k := 118) ho (by decide) rfl (fun e => by subst e; exact l_d118 fu hfu sg h hl s1 s2 s3 s4 s5 s6 s7 s8 s9 s10 s11 s12 s13 s14 s15 s16 s17 s18 s19 s20 s21 s22 s23 s24 s25 mg) (fun n118 => ?_)
  refine ok_op (k := 119) ho (by decide) rfl (fun e => by subst e; exact l_d119 fu hfu sg h hl s1 s2 s3 s4 s5 s6 s7 s8 s9 s10 s11 s12 s13 s14 s15 s16 s17 s18 s19 s20 s21 s22 s23 s24 s25 mg) (fun n119 => ?_)
  refine ok_op (k := 120) ho (by decide) rfl (fun e => by subst e; exact l_d120 fu hfu sg h hl s1 s2 s3 s4 s5 s6 s7 s8 s9 s10 s11 s12 s13 s14 s15 s16 s17 s18 s19 s20 s21 s22 s23 s24 s25 mg) (fun n120 => ?_)
  refine ok_op (k := 121) ho (by decide) rfl (fun e => l_d651 fu hfu sg st e1 e2 e3 e4 e5 e6 e7 e8 h hl (Or.inl e) s1 s2 s3 s4 s5 s6 s7 s8 s9 s10 s11 s12 s13 s14 s15 s16 s17 s18 s19 s20 s21 s22 s23 s24 s25 mg) (fun n121 => ?_)
  refine ok_op (k := 122) ho (by decide) rfl (fun e => l_d651 fu hfu sg st e1 e2 e3 e4 e5 e6 e7 e8 h hl (Or.inr e) s1 s2 s3 s4 s5 s6 s7 s8 s9 s10 s11 s12 s13 s14 s15 s16 s17 s18 s19 s20 s21 s22 s23 s24 s25 mg) (fun n122 => ?_)
  refine ok_op (k := 123) ho (by decide) rfl (fun e => by subst e; exact l_d123 fu hfu sg h hl s1 s2 s3 s4 s5 s6 s7 s8 s9 s10 s11 s12 s13 s14 s15 s16 s17 s18 s19 s20 s21 s22 s23 s24 s25 mg) (fun n123 => ?_)
  refine ok_op (k := 124) ho (by decide) rfl (fun e => by subst e; exact l_d124 fu hfu sg h hl s1 s2 s3 s4 s5 s6 s7 s8 s9 s10 s11 s12 s13 s14 s15 s16 s17 s18 s19 s20 s21 s22 s23 s24 s25 mg) (fun n124 => ?_)
  refine ok_op (k := 125) ho (by decide) rfl (fun e => by subst e; exact l_d125 fu hfu sg h hl s1 s2 s3 s4 s5 s6 s7 s8 s9 s10 s11 s12 s13 s14 s15 s16 s17 s18 s19 s20 s21 s22 s23 s24 s25 mg) (fun n125 => ?_)
  refine ok_op (k := 126) ho (by decide) rfl (fun e => by subst e; exact ok_some (opQ_0 rfl (zf_r _) hT)) (fun n126 => ?_)
  refine ok_op (k := 127) ho (by decide) rfl (fun e => by subst e; exact ok_some (opQ_0 rfl (zf_r _) hT)) (fun n127 => ?_)
  refine ok_op (k := 128) ho (by decide) rfl (fun e => by subst e; exact ok_some (opQ_0 rfl (zf_r _) hT)) (fun n128 => ?_)
  refine ok_op (k := 129) ho (by decide) rfl (fun e => by subst e; exact ok_some (opQ_0 rfl (zf_r _) hT)) (fun n129 => ?_)
  refine ok_op (k := 130) ho (by decide) rfl (fun e => by subst e; exact l_d130 fu hfu sg h hl s1 s2 s3 s4 s5 s6 s7 s8 s9 s10 s11 s12 s13 s14 s15 s16 s17 s18 s19 s20 s21 s22 s23 s24 s25 mg) (fun n130 => ?_)
  refine ok_op (k := 131) ho (by decide) rfl (fun e => by subst e; exact ok_some (opQ_0 rfl (zf_r _) hT)) (fun n131 => ?_)
  refine ok_op (k := 132) ho (by decide) rfl (fun e => by subst e; exact ok_some (opQ_0 rfl (zf_r _) hT)) (fun n132 => ?_)
  refine ok_op (k := 133) ho (by decide) rfl (fun e => by subst e; exact ok_some (opQ_0 rfl (zf_r _) hT)) (fun n133 => ?_)
  refine ok_op (k := 134) ho (by decide) rfl (fun e => by subst e; exact ok_some (opQ_0 rfl (zf_r _) hT)) (fun n134 => ?_)
  refine ok_op (k := 135) ho (by decide) rfl (fun e => l_d880 fu hfu sg st e1 e2 e3 e4 e5 e6 e7 e8 h hl (Or.inl e) s1 s2 s3 s4 s5 s6 s7 s8 s9 s10 s11 s12 s13 s14 s15 s16 s17 s18 s19 s20 s21 s22 s23 s24 s25 mg) (fun n135 => ?_)
  refine ok_op (k := 136) ho (by decide) rfl (fun e => l_d880 fu hfu sg st e1 e2 e3 e4 e5 e6 e7 e8 h hl (Or.inr e) s1 s2 s3 s4 s5 s6 s7 s8 s9 s10 s11 s12 s13 s14 s15 s16 s17 s18 s19 s20 s21 s22 s23 s24 s25 mg) (fun n136 => ?_)
  refine ok_op (k := 137) ho (by decide) rfl (fun e => by subst e; exact ok_some (opQ_0 rfl (zf_r _) hT)) (fun n137 => ?_)
  refine ok_op (k := 138) ho (by decide) rfl (fun e => by subst e; exact ok_some (opQ_0 rfl (zf_r _) hT)) (fun n138 => ?_)
  refine ok_op (k := 139) ho (by decide) rfl (fun e => absurd (by omega) hn2) (fun n139 => ?_)
  refine ok_op (k := 140) ho (by decide) rfl (fun e => absurd (by omega) hn2) (fun n140 => ?_)
  refine ok_op (k := 141) ho (by decide) rfl (fun e => absurd (by omega) hn2) (fun n141 => ?_)
  refine ok_op (k := 142) ho (by decide) rfl (fun e => absurd (by omega) hn2) (fun n142 => ?_)
  refine ok_op (k := 143) ho (by decide) rfl (fun e => absurd (by omega) hn2) (fun n143 => ?_)
  refine ok_op (k := 144) ho (by decide) rfl (fun e => absurd (by omega) hn2) (fun n144 => ?_)
  refine ok_op (k := 145) ho (by decide) rfl (fun e => absurd (by omega) hn2) (fun n145 => ?_)
  refine ok_op (k := 146) ho (by decide) rfl (fun e => absurd (by omega) hn2) (fun n146 => ?_)
  refine ok_op (k := 147) ho (by decide) rfl (fun e => absurd (by omega) hn2) (fun n147 => ?_)
  refine ok_op (k := 148) ho (by decide) rfl (fun e => absurd (by omega) hn2) (fun n148 => ?_)
  refine ok_op (k := 149) ho (by decide) rfl (fun e => absurd (by omega) hn2) (fun n149 => ?_)
  refine ok_op (k := 150) ho (by decide) rfl (fun e => absurd (by omega) hn2) (fun n150 => ?_)
  refine ok_op (k := 151) ho (by decide) rfl (fun e => absurd (by omega) hn2) (fun n151 => ?_)
  refine ok_op (k := 152) ho (by decide) rfl (fun e => absurd (by omega) hn2) (fun n152 => ?_)
  refine ok_op (k := 153) ho (by decide) rfl (fun e => absurd (by omega) hn2) (fun n153 => ?_)
  refine ok_op (k := 154) ho (by decide) rfl (fun e => absurd (by omega) hn2) (fun n154 => ?_)
  refine ok_op (k := 155) ho (by decide) rfl (fun e => absurd (by omega) hn2) (fun n155 => ?_)
  refine ok_op (k := 156) ho (by decide) rfl (fun e => absurd (by omega) hn2) (fun n156 => ?_)
  refine ok_op (k := 157) ho (by decide) rfl (fun e => absurd (by omega) hn2) (fun n157 => ?_)
  refine ok_op (k := 158) ho (by decide) rfl (fun e => absurd (by omega) hn2) (fun n158 => ?_)
  refine ok_op (k := 159) ho (by decide) rfl (fun e => absurd (by omega) hn2) (fun n159 => ?_)
  refine ok_op (k := 160) ho (by decide) rfl (fun e => absurd (by omega) hn2) (fun n160 => ?_)
  refine ok_op (k := 161) ho (by decide) rfl (fun e => absurd (by omega) hn2) (fun n161 => ?_)
  refine ok_op (k := 162) ho (by decide) rfl (fun e => absurd (by omega) hn2) (fun n162 => ?_)
  refine ok_op (k := 163) ho (by decide) rfl (fun e => absurd (by omega) hn2) (fun n163 => ?_)
  refine ok_op (k := 164) ho (by decide) rfl (fun e => absurd (by omega) hn2) (fun n164 => ?_)
  refine ok_op (k := 165) ho (by decide) rfl (fun e => absurd (by omega) hn2) (fun n165 => ?_)
  refine ok_op (k := 166) ho (by decide) rfl (fun e => l_d933 fu hfu sg st e1 e2 e3 e4 e5 e6 e7 e8 h hl (Or.inl e) s1 s2 s3 s4 s5 s6 s7 s8 s9 s10 s11 s12 s13 s14 s15 s16 s17 s18 s19 s20 s21 s22 s23 s24 s25 mg) (fun n166 => ?_)
  refine ok_op (k := 167) ho (by decide) rfl (fun e => by subst e; exact ok_some (opQ_0 rfl (zf_r _) hT)) (fun n167 => ?_)
  refine ok_op (k := 168) ho (by decide) rfl (fun e => l_d933 fu hfu sg st e1 e2 e3 e4 e5 e6 e7 e8 h hl (Or.inr (Or.inl e)) s1 s2 s3 s4 s5 s6 s7 s8 s9 s10 s11 s12 s13 s14 s15 s16 s17 s18 s19 s20 s21 s22 s23 s24 s25 mg) (fun n168 => ?_)
  refine ok_op (k := 169) ho (by decide) rfl (fun e => l_d933 fu hfu sg st e1 e2 e3 e4 e5 e6 e7 e8 h hl (Or.inr (Or.inr (Or.inl e))) s1 s2 s3 s4 s5 s6 s7 s8 s9 s10 s11 s12 s13 s14 s15 s16 s17 s18 s19 s20 s21 s22 s23 s24 s25 mg) (fun n169 => ?_)
  refine ok_op (k := 170) ho (by decide) rfl (fun e => l_d933 fu hfu sg st e1 e2 e3 e4 e5 e6 e7 e8 h hl (Or.inr (Or.inr (Or.inr e))) s1 s2 s3 s4 s5 s6 s7 s8 s9 s10 s11 s12 s13 s14 s15 s16 s17 s18 s19 s20 s21 s22 s23 s24 s25 mg) (fun n170 => ?_)
  refine ok_op (k := 171) ho (by decide) rfl (fun e => by subst e; exact ok_some (opQ_0 rfl (zf_r _) hT)) (fun n171 => ?_)
  refine ok_op (k := 172) ho (by decide) rfl (fun e => l_d939 fu hfu sg st e1 e2 e3 e4 e5 e6 e7 e8 hE hz h hl (Or.inl e) s1 s2 s3 s4 s5 s6 s7 s8 s9 s10 s11 s12 s13 s14 s15 s16 s17 s18 s19 s20 s21 s22 s23 s24 s25 mg) (fun n172 => ?_)
  refine ok_op (k := 173) ho (by decide) rfl (fun e => l_d939 fu hfu sg st e1 e2 e3 e4 e5 e6 e7 e8 hE hz h hl (Or.inr e) s1 s2 s3 s4 s5 s6 s7 s8 s9 s10 s11 s12 s13 s14 s15 s16 s17 s18 s19 s20 s21 s22 s23 s24 s25 mg) (fun n173 => ?_)
  refine ok_op (k := 174) ho (by decide) rfl (fun e => l_d992 fu hfu sg st e1 e2 e3 e4 e5 e6 e7 e8 hE hz h hl hops (Or.inl e) s1 s2 s3 s4 s5 s6 s7 s8 s9 s10 s11 s12 s13 s14 s15 s16 s17 s18 s19 s20 s21 s22 s23 s24 s25 mg) (fun n174 => ?_)
  refine ok_op (k := 175) ho (by decide) rfl (fun e => l_d992 fu hfu sg st e1 e2 e3 e4 e5 e6 e7 e8 hE hz h hl hops (Or.inr e) s1 s2 s3 s4 s5 s6 s7 s8 s9 s10 s11 s12 s13 s14 s15 s16 s17 s18 s19 s20 s21 s22 s23 s24 s25 mg) (fun n175 => ?_)
  refine ok_some (opQ_0 ?_ (zf_r _) hT)
  unfold opS
  rw [if_neg hn1, if_neg n97, if_neg n105, if_neg n107, if_neg n108, if_neg n109, if_neg n110, if_neg n115, if_neg n116, if_neg n117, if_neg n118, if_neg n119, if_neg n120, if_neg (show ¬ (o = 121 ∨ o = 122) by omega), if_neg n123, if_neg n124, if_neg n125, if_neg n130, if_neg n135, if_neg n136, if_neg (show ¬ (139 ≤ o ∧ o ≤ 146) by omega), if_neg (show ¬ (147 ≤ o ∧ o ≤ 164) by omega), if_neg n165, if_neg (show ¬ (o = 166 ∨ o = 168 ∨ o = 169 ∨ o = 170) by omega), if_neg n172, if_neg n173, if_neg n174, if_neg n175]
set_option maxHeartbeats 1000000 in
theorem v_isDone (fu : Nat) (hfu : 1600 ≤ fu) (sg : List Int32 → List Int32 → Bool) (st e1 e2 e3 e4 e5 e6 e7 e8 : Nat → Int32) {z0 z th sz : Nat → Int32} (hE : sgE fu st e1 e2 e3 e4 e5 e6 e7 e8 z0 sg) (hz : zf z0 z) {S A : Stk} {ops o : Nat} (h : rM z th sz S A ops) (hl : S.length + A.length ≤ 200) (hops : ops ≤ 201) (ho : o < 256) (s1 s2 s3 s4 s5 s6 s7 s8 s9 s10 s11 s12 s13 s14 s15 s16 s17 s18 s19 s20 s21 s22 s23 s24 s25 mg : Nat → Int32) : ok (x_M_isDone fu st e1 e2 e3 e4 e5 e6 e7 e8 (nI o) z s1 s2 s3 s4 s5 s6 s7 s8 s9 s10 s11 s12 s13 s14 s15 s16 s17 s18 s19 s20 s21 s22 s23 s24 s25 th sz mg) (op30 (opS sg hsF o S A ops) z) := by
  unfold x_M_isDone
  refine ok_op (k := 79) ho (by decide) rfl (fun e => l_d18 fu hfu sg st e1 e2 e3 e4 e5 e6 e7 e8 h hl (Or.inl e) s1 s2 s3 s4 s5 s6 s7 s8 s9 s10 s11 s12 s13 s14 s15 s16 s17 s18 s19 s20 s21 s22 s23 s24 s25 mg) (fun n79 => ?_)
  have R : ¬ (81 ≤ o ∧ o ≤ 96) → ok (xb_M_isDone_29 fu st e1 e2 e3 e4 e5 e6 e7 e8 (nI o) z s1 s2 s3 s4 s5 s6 s7 s8 s9 s10 s11 s12 s13 s14 s15 s16 s17 s18 s19 s20 s21 s22 s23 s24 s25 th sz mg) (op30 (opS sg hsF o S A ops) z) := fun hn => by
    unfold xb_M_isDone_29
    by_cases c1 : o < 139
    · exact ok_t ((nI_ltI (b := 139) (by omega) (by omega)).mpr c1) (l_d49 fu hfu sg st e1 e2 e3 e4 e5 e6 e7 e8 hE hz h hl hops ho (by omega) (by omega) s1 s2 s3 s4 s5 s6 s7 s8 s9 s10 s11 s12 s13 s14 s15 s16 s17 s18 s19 s20 s21 s22 s23 s24 s25 mg)
    refine ok_f (fun e => c1 ((nI_ltI (b := 139) (by omega) (by omega)).mp e)) ?_
    by_cases c2 : 165 < o
    · exact ok_t ((nI_ltI (a := 165) (by omega) (by omega)).mpr c2) (l_d49 fu hfu sg st e1 e2 e3 e4 e5 e6 e7 e8 hE hz h hl hops ho (by omega) (by omega) s1 s2 s3 s4 s5 s6 s7 s8 s9 s10 s11 s12 s13 s14 s15 s16 s17 s18 s19 s20 s21 s22 s23 s24 s25 mg)
    refine ok_f (fun e => c2 ((nI_ltI (a := 165) (by omega) (by omega)).mp e)) ?_
    have eA : opS sg hsF o S A ops = arS o S A ops := by
      have cs : ∃ k, k < 27 ∧ o = 139 + k := ⟨o - 139, by omega, by omega⟩
      obtain ⟨k, hk, rfl⟩ := cs
      unfold opS arS
      rw [if_neg (show ¬ (139 + k = 79 ∨ 81 ≤ 139 + k ∧ 139 + k ≤ 96) by omega), if_neg (show ¬ 139 + k = 97 by omega), if_neg (show ¬ 139 + k = 105 by omega), if_neg (show ¬ 139 + k = 107 by omega), if_neg (show ¬ 139 + k = 108 by omega), if_neg (show ¬ 139 + k = 109 by omega), if_neg (show ¬ 139 + k = 110 by omega), if_neg (show ¬ 139 + k = 115 by omega), if_neg (show ¬ 139 + k = 116 by omega), if_neg (show ¬ 139 + k = 117 by omega), if_neg (show ¬ 139 + k = 118 by omega), if_neg (show ¬ 139 + k = 119 by omega), if_neg (show ¬ 139 + k = 120 by omega), if_neg (show ¬ (139 + k = 121 ∨ 139 + k = 122) by omega), if_neg (show ¬ 139 + k = 123 by omega), if_neg (show ¬ 139 + k = 124 by omega), if_neg (show ¬ 139 + k = 125 by omega), if_neg (show ¬ 139 + k = 130 by omega), if_neg (show ¬ 139 + k = 135 by omega), if_neg (show ¬ 139 + k = 136 by omega)]
      by_cases d1 : 139 + k ≤ 146
      · rw [if_pos ⟨by omega, d1⟩, if_pos d1]; rfl
      · rw [if_neg (fun e => d1 e.2), if_neg d1]
        by_cases d2 : 139 + k ≤ 164
        · rw [if_pos ⟨by omega, d2⟩, if_pos d2]; rfl
        · rw [if_neg (fun e => d2 e.2), if_neg d2, if_pos (by omega)]; rfl
    rw [eA]
    refine ok_bd4 (v_isArithmetic fu (by omega) h ⟨by omega, by omega⟩) (fun v f1 f2 f3 hq => ?_)
    replace hq : opQ (arS o S A ops) z v f1 f2 f3 := hq
    exact ok_gd (opQ_isb hq) (ok_some hq)
  by_cases c1 : o < 81
  · exact ok_t ((nI_ltI (b := 81) (by omega) (by omega)).mpr c1) (R (by omega))
  refine ok_f (fun e => c1 ((nI_ltI (b := 81) (by omega) (by omega)).mp e)) ?_
  by_cases c2 : 96 < o
  · exact ok_t ((nI_ltI (a := 96) (by omega) (by omega)).mpr c2) (R (by omega))
  exact ok_f (fun e => c2 ((nI_ltI (a := 96) (by omega) (by omega)).mp e)) (l_d18 fu hfu sg st e1 e2 e3 e4 e5 e6 e7 e8 h hl (Or.inr ⟨by omega, by omega⟩) s1 s2 s3 s4 s5 s6 s7 s8 s9 s10 s11 s12 s13 s14 s15 s16 s17 s18 s19 s20 s21 s22 s23 s24 s25 mg)
