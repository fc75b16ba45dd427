-- double hashes in the memory; the layout; the ids
set_option maxHeartbeats 400000 in
theorem tw_fin {u5 f6 f12 m : Nat → Int32} {N o : Nat} (w : ∀ j, f6 j = if o ≤ j ∧ j < o + 32 then s_ob (s_sh m N) (j - o) else u5 j) (w' : ∀ j, f12 j = if o ≤ j ∧ j < o + 32 then s_ob (s_sh (fun i => f6 (o + i)) 32) (j - o) else f6 j) (j : Nat) : f12 j = if o ≤ j ∧ j < o + 32 then dbl m N (j - o) else u5 j := by
  rw [w' j]
  by_cases g : o ≤ j ∧ j < o + 32
  · rw [if_pos g, if_pos g]
    unfold dbl
    rw [s_sh_c (m := fun i => f6 (o + i)) (m' := fun i => s_ob (s_sh m N) i) (n := 32) (fun i hi => by
      show f6 (o + i) = _
      rw [w (o + i), if_pos (by omega), Nat.add_sub_cancel_left])]
  · rw [if_neg g, if_neg g, w j, if_neg g]
def twQ (u5 m : Nat → Int32) (N o : Nat) (t : T6s) : Prop := ∀ j, t.2.2.2.2.2 j = if o ≤ j ∧ j < o + 32 then dbl m N (j - o) else u5 j
set_option maxHeartbeats 400000 in
theorem v_Sh_tw (fu : Nat) (hfu : 4000 ≤ fu) (n1 : Nat) (hn1 : n1 < 2 ^ 30) (n4 : Nat) (hn4 : n4 < 2 ^ 30) (h1 : Nat → Int32) {a N o : Nat} (hN : N < 4000) (ha : a + N ≤ n1) (ho : o + 32 ≤ n4) (u0 : Int32) (u1 : Int64) (u2 u3 u4 u5 : Nat → Int32) (hfit : ∀ j, j < N → fits .byte (.int (h1 (a + j))) = true) (hf : ftB u5) : ok (x_Sh_twice fu n1 h1 n4 (nI a) (nI N) (nI o) u0 u1 u2 u3 u4 u5) (twQ u5 (fun i => h1 (a + i)) N o) := by
  unfold x_Sh_twice
  obtain ⟨st', w', ck', -, e⟩ := sh_once fu (by omega) n1 (by omega) n4 (by omega) h1 a N (by omega) ha hfit o ho u0 u1 u2 u3 u4 u5
  refine ok_bd6 (Q := fun t : T6s => ∀ j, t.2.2.2.2.2 j = if o ≤ j ∧ j < o + 32 then s_ob (s_sh (fun i => h1 (a + i)) N) (j - o) else u5 j) ⟨_, e, fun j => s_out_at _ _ _ _ _⟩ (fun e1 e2 f3 f4 f5 f6 w => ?_)
  have hf6 : ftB f6 := ftB_r hf (fun j => s_ob_f _ j) w
  rw [show (32 : Int32) = nI 32 from rfl]
  exact ok_bd6 (v_Sh_once_e fu (by omega) n4 hn4 (a := o) (N := 32) (o := o) (by decide) ho ho e1 e2 f3 f4 f5 f6 hf6) (fun e7 e8 f9 f10 f11 f12 w' => ok_some (tw_fin w w'))
set_option maxHeartbeats 400000 in
theorem v_Sh_twe (fu : Nat) (hfu : 4000 ≤ fu) (n4 : Nat) (hn4 : n4 < 2 ^ 30) {a N o : Nat} (hN : N < 1600) (ha : a + N ≤ n4) (ho : o + 32 ≤ n4) (u0 : Int32) (u1 : Int64) (u2 u3 u4 u5 : Nat → Int32) (hf : ftB u5) : ok (x_Sh_twice_e41 fu n4 (nI a) (nI N) (nI o) u0 u1 u2 u3 u4 u5) (twQ u5 (fun i => u5 (a + i)) N o) := by
  unfold x_Sh_twice_e41
  refine ok_bd6 (v_Sh_once_e fu (by omega) n4 hn4 (a := a) (N := N) (o := o) hN ha ho u0 u1 u2 u3 u4 u5 hf) (fun e1 e2 f3 f4 f5 f6 w => ?_)
  have hf6 : ftB f6 := ftB_r hf (fun j => s_ob_f _ j) w
  rw [show (32 : Int32) = nI 32 from rfl]
  exact ok_bd6 (v_Sh_once_e fu (by omega) n4 hn4 (a := o) (N := 32) (o := o) (by decide) ho ho e1 e2 f3 f4 f5 f6 hf6) (fun e7 e8 f9 f10 f11 f12 w' => ok_some (tw_fin w w'))
def shX (C : Nat → va_E) (q : Nat → Nat) (cy : Nat → ClassId) : Prop := ∃ fl ln st w ck, shR C q cy fl ln st w ck
/-- what a double hash leaves as it was -/
def fS (kd : Nat) (C C' : Nat → va_E) : Prop := ∀ k, (k < 106 ∨ 109 < k) → k ≠ kd → C' k = C k
set_option maxHeartbeats 400000 in
theorem fS_t {kd : Nat} {C C1 C2 : Nat → va_E} (h1 : fS kd C C1) (h2 : fS kd C1 C2) : fS kd C C2 := fun k hk hn => (h2 k hk hn).trans (h1 k hk hn)
set_option maxHeartbeats 400000 in
theorem w_Tw (fu : Nat) (hfu : 4000 ≤ fu) {cy : Nat → ClassId} {P : Nat → Prop} {q : Nat → Nat} {C : Nat → va_E} {M : Mm} (hM : RG P q C M) (hq : IJ P q) (hP : ∀ k, k < 138 ∧ k ≠ 29 ∧ k ≠ 137 ∧ k ≠ 135 → P k) (hs : shX C q cy) {ks kd n1 n4 : Nat} (hks : P ks) (hkd : P kd) (h1 : ks < 106 ∨ 109 < ks) (h2 : kd < 106 ∨ 109 < kd) (hne : ks ≠ kd) {g d : Nat → Int32} (eks : C ks = .inl (cy 0, n1, .inl g)) (ekd : C kd = .inl (cy 0, n4, .inl d)) (hn1 : n1 < 2 ^ 30) (hn4 : n4 < 2 ^ 30) {a N o : Nat} (hN : N < 4000) (ha : a + N ≤ n1) (ho : o + 32 ≤ n4) (hfit : ∀ j, j < N → fits .byte (.int (g (a + j))) = true) (hf : ftB d) (K : Mm → Prop) (hK : ∀ M' C' d', RG P q C' M' → shX C' q cy → C' kd = .inl (cy 0, n4, .inl d') → (∀ j, d' j = if o ≤ j ∧ j < o + 32 then dbl (fun i => g (a + i)) N (j - o) else d j) → fS kd C C' → K M') : ∃ (b46 : Nat) (b47 : Nat) (b48 : Nat) (c49 : Nat) (c50 : Nat → Int32) (c51 : Nat) (c52 : Int32) (c53 : Int64) (c54 : Nat → Int32) (c55 : Nat → Int32) (c56 : Nat → Int32) (c57 : Nat → Int32), mal M [((q 106), .inr (9, [.ref b46, .ref b47, .ref b48, .int c52, .long c53])), (b46, .inl (cy 1, 8, .inl c54)), (b47, .inl (cy 1, 64, .inl c55)), (b48, .inl (cy 0, 64, .inl c56)), ((q ks), .inl (cy 0, c49, .inl c50)), ((q kd), .inl (cy 0, c51, .inl c57))] ∧ mnd (List.map (fun x : Nat × va_E => x.1) [((q 106), .inr (9, [.ref b46, .ref b47, .ref b48, .int c52, .long c53])), (b46, .inl (cy 1, 8, .inl c54)), (b47, .inl (cy 1, 64, .inl c55)), (b48, .inl (cy 0, 64, .inl c56)), ((q ks), .inl (cy 0, c49, .inl c50)), ((q kd), .inl (cy 0, c51, .inl c57))]) ∧ ∃ (c58 : Int32) (c59 : Int64) (c60 : Nat → Int32) (c61 : Nat → Int32) (c62 : Nat → Int32) (c63 : Nat → Int32), x_Sh_twice fu c49 c50 c51 (nI a) (nI N) (nI o) c52 c53 c54 c55 c56 c57 = some (c58, c59, c60, c61, c62, c63) ∧ bnd (mov M [((q 106), .inr (9, [.ref b46, .ref b47, .ref b48, .int c58, .long c59])), (b46, .inl (cy 1, 8, .inl c60)), (b47, .inl (cy 1, 64, .inl c61)), (b48, .inl (cy 0, 64, .inl c62)), ((q ks), .inl (cy 0, c49, .inl c50)), ((q kd), .inl (cy 0, c51, .inl c63))]) fun M64 => K M64 := by
  obtain ⟨fl, ln, st, w, ck, e1, e2, e3, e4⟩ := hs
  obtain ⟨⟨fl', ln', st', w', ck', d'⟩, he, hd⟩ := v_Sh_tw fu hfu n1 hn1 n4 hn4 g hN ha ho fl ln st w ck d hfit hf
  refine ⟨_, _, _, _, _, _, _, _, _, _, _, _, mal_c (g_at hM (hP 106 (by decide)) e1) (mal_c (g_at hM (hP 107 (by decide)) e2) (mal_c (g_at hM (hP 108 (by decide)) e3) (mal_c (g_at hM (hP 109 (by decide)) e4) (mal_c (g_at hM hks eks) (mal_c (g_at hM hkd ekd) (mal_n _)))))), ?_, _, _, _, _, _, _, he, ?_⟩
  · refine gnd hq [106, 107, 108, 109, ks, kd] (fun k hk => ?_) ?_
    · simp only [List.mem_cons, List.not_mem_nil, or_false] at hk
      rcases hk with e | e | e | e | e | e <;> subst e
      · exact hP _ (by decide)
      · exact hP _ (by decide)
      · exact hP _ (by decide)
      · exact hP _ (by decide)
      · exact hks
      · exact hkd
    · simp only [List.nodup_cons, List.mem_cons, List.not_mem_nil, not_false_eq_true, List.nodup_nil, and_true, or_false]
      omega
  · obtain ⟨C', hC'⟩ : ∃ C', C' = va_up (shU C q cy fl' ln' st' w' ck') kd (.inl (cy 0, n4, .inl d')) := ⟨_, rfl⟩
    obtain ⟨r1, r2, r3, r4⟩ := shU_r C q cy fl' ln' st' w' ck'
    have f1 : C' 106 = shO q fl' ln' := by rw [hC', up_n (by omega)]; exact r1
    have f2 : C' 107 = .inl (cy 1, 8, .inl st') := by rw [hC', up_n (by omega)]; exact r2
    have f3 : C' 108 = .inl (cy 1, 64, .inl w') := by rw [hC', up_n (by omega)]; exact r3
    have f4 : C' 109 = .inl (cy 0, 64, .inl ck') := by rw [hC', up_n (by omega)]; exact r4
    have f5 : C' ks = .inl (cy 0, n1, .inl g) := by rw [hC', up_n hne, shU_n h1]; exact eks
    have f6 : C' kd = .inl (cy 0, n4, .inl d') := by rw [hC', up_e]
    have n1 : fS kd C C' := fun k k1 k2 => by rw [hC', up_n k2, shU_n k1]
    have L := g_lf (K := K) hM hq C' [106, 107, 108, 109, ks, kd] (fun k hk => ?_) (fun k _ hk => n1 k ?_ (fun e => hk (by rw [e]; simp))) (fun M' hM' => hK M' C' d' hM' ⟨fl', ln', st', w', ck', f1, f2, f3, f4⟩ f6 hd n1)
    · rw [show [106, 107, 108, 109, ks, kd].map (fun k => (q k, C' k)) = [(q 106, C' 106), (q 107, C' 107), (q 108, C' 108), (q 109, C' 109), (q ks, C' ks), (q kd, C' kd)] from rfl, f1, f2, f3, f4, f5, f6] at L
      exact L
    · simp only [List.mem_cons, List.not_mem_nil, or_false] at hk
      rcases hk with e | e | e | e | e | e <;> subst e
      · exact hP _ (by decide)
      · exact hP _ (by decide)
      · exact hP _ (by decide)
      · exact hP _ (by decide)
      · exact hks
      · exact hkd
    · simp only [List.mem_cons, List.not_mem_nil, or_false] at hk
      omega
set_option maxHeartbeats 400000 in
theorem w_TwE (fu : Nat) (hfu : 4000 ≤ fu) {cy : Nat → ClassId} {P : Nat → Prop} {q : Nat → Nat} {C : Nat → va_E} {M : Mm} (hM : RG P q C M) (hq : IJ P q) (hP : ∀ k, k < 138 ∧ k ≠ 29 ∧ k ≠ 137 ∧ k ≠ 135 → P k) (hs : shX C q cy) {kd n4 : Nat} (hkd : P kd) (h2 : kd < 106 ∨ 109 < kd) {d : Nat → Int32} (ekd : C kd = .inl (cy 0, n4, .inl d)) (hn4 : n4 < 2 ^ 30) {a N o : Nat} (hN : N < 1600) (ha : a + N ≤ n4) (ho : o + 32 ≤ n4) (hf : ftB d) (K : Mm → Prop) (hK : ∀ M' C' d', RG P q C' M' → shX C' q cy → C' kd = .inl (cy 0, n4, .inl d') → (∀ j, d' j = if o ≤ j ∧ j < o + 32 then dbl (fun i => d (a + i)) N (j - o) else d j) → fS kd C C' → K M') : ∃ (b28 : Nat) (b29 : Nat) (b30 : Nat) (c31 : Nat) (c32 : Int32) (c33 : Int64) (c34 : Nat → Int32) (c35 : Nat → Int32) (c36 : Nat → Int32) (c37 : Nat → Int32), mal M [((q 106), .inr (9, [.ref b28, .ref b29, .ref b30, .int c32, .long c33])), (b28, .inl (cy 1, 8, .inl c34)), (b29, .inl (cy 1, 64, .inl c35)), (b30, .inl (cy 0, 64, .inl c36)), ((q kd), .inl (cy 0, c31, .inl c37))] ∧ mnd (List.map (fun x : Nat × va_E => x.1) [((q 106), .inr (9, [.ref b28, .ref b29, .ref b30, .int c32, .long c33])), (b28, .inl (cy 1, 8, .inl c34)), (b29, .inl (cy 1, 64, .inl c35)), (b30, .inl (cy 0, 64, .inl c36)), ((q kd), .inl (cy 0, c31, .inl c37))]) ∧ ∃ (c38 : Int32) (c39 : Int64) (c40 : Nat → Int32) (c41 : Nat → Int32) (c42 : Nat → Int32) (c43 : Nat → Int32), x_Sh_twice_e41 fu c31 (nI a) (nI N) (nI o) c32 c33 c34 c35 c36 c37 = some (c38, c39, c40, c41, c42, c43) ∧ bnd (mov M [((q 106), .inr (9, [.ref b28, .ref b29, .ref b30, .int c38, .long c39])), (b28, .inl (cy 1, 8, .inl c40)), (b29, .inl (cy 1, 64, .inl c41)), (b30, .inl (cy 0, 64, .inl c42)), ((q kd), .inl (cy 0, c31, .inl c43))]) fun M44 => K M44 := by
  obtain ⟨fl, ln, st, w, ck, e1, e2, e3, e4⟩ := hs
  obtain ⟨⟨fl', ln', st', w', ck', d'⟩, he, hd⟩ := v_Sh_twe fu hfu n4 hn4 hN ha ho fl ln st w ck d hf
  refine ⟨_, _, _, _, _, _, _, _, _, _, mal_c (g_at hM (hP 106 (by decide)) e1) (mal_c (g_at hM (hP 107 (by decide)) e2) (mal_c (g_at hM (hP 108 (by decide)) e3) (mal_c (g_at hM (hP 109 (by decide)) e4) (mal_c (g_at hM hkd ekd) (mal_n _))))), ?_, _, _, _, _, _, _, he, ?_⟩
  · refine gnd hq [106, 107, 108, 109, kd] (fun k hk => ?_) ?_
    · simp only [List.mem_cons, List.not_mem_nil, or_false] at hk
      rcases hk with e | e | e | e | e <;> subst e
      · exact hP _ (by decide)
      · exact hP _ (by decide)
      · exact hP _ (by decide)
      · exact hP _ (by decide)
      · exact hkd
    · simp only [List.nodup_cons, List.mem_cons, List.not_mem_nil, not_false_eq_true, List.nodup_nil, and_true, or_false]
      omega
  · obtain ⟨C', hC'⟩ : ∃ C', C' = va_up (shU C q cy fl' ln' st' w' ck') kd (.inl (cy 0, n4, .inl d')) := ⟨_, rfl⟩
    obtain ⟨r1, r2, r3, r4⟩ := shU_r C q cy fl' ln' st' w' ck'
    have f1 : C' 106 = shO q fl' ln' := by rw [hC', up_n (by omega)]; exact r1
    have f2 : C' 107 = .inl (cy 1, 8, .inl st') := by rw [hC', up_n (by omega)]; exact r2
    have f3 : C' 108 = .inl (cy 1, 64, .inl w') := by rw [hC', up_n (by omega)]; exact r3
    have f4 : C' 109 = .inl (cy 0, 64, .inl ck') := by rw [hC', up_n (by omega)]; exact r4
    have f6 : C' kd = .inl (cy 0, n4, .inl d') := by rw [hC', up_e]
    have n1 : fS kd C C' := fun k k1 k2 => by rw [hC', up_n k2, shU_n k1]
    have L := g_lf (K := K) hM hq C' [106, 107, 108, 109, kd] (fun k hk => ?_) (fun k _ hk => n1 k ?_ (fun e => hk (by rw [e]; simp))) (fun M' hM' => hK M' C' d' hM' ⟨fl', ln', st', w', ck', f1, f2, f3, f4⟩ f6 hd n1)
    · rw [show [106, 107, 108, 109, kd].map (fun k => (q k, C' k)) = [(q 106, C' 106), (q 107, C' 107), (q 108, C' 108), (q 109, C' 109), (q kd, C' kd)] from rfl, f1, f2, f3, f4, f6] at L
      exact L
    · simp only [List.mem_cons, List.not_mem_nil, or_false] at hk
      rcases hk with e | e | e | e | e <;> subst e
      · exact hP _ (by decide)
      · exact hP _ (by decide)
      · exact hP _ (by decide)
      · exact hP _ (by decide)
      · exact hkd
    · simp only [List.mem_cons, List.not_mem_nil, or_false] at hk
      omega
/-- the layout holds what was read -/
def lyR (C : Nat → va_E) (q : Nat → Nat) (cy : Nat → ClassId) (rv : Value) (E : Nat) (TL : List Tx5) (u3 u4 u5 u6 u7 u8 u9 u10 u11 : Nat → Int32) : Prop := (C 120 = laO q rv (nI TL.length) (nI E) (nI E) (nI (nIn TL)) (nI (nOut TL)) ∧ C 121 = .inl (cy 1, 301, .inl u3) ∧ C 122 = .inl (cy 1, 301, .inl u4) ∧ C 123 = .inl (cy 1, 301, .inl u5) ∧ C 124 = .inl (cy 1, 73, .inl u6) ∧ C 125 = .inl (cy 1, 73, .inl u7) ∧ C 126 = .inl (cy 1, 73, .inl u8) ∧ C 127 = .inl (cy 1, 333, .inl u9) ∧ C 128 = .inl (cy 1, 333, .inl u10) ∧ C 129 = .inl (cy 1, 333, .inl u11)) ∧ laH u3 u4 u5 u6 u7 u8 u9 u10 u11 TL 0 0 0
set_option maxHeartbeats 400000 in
theorem lyR_c {C C' : Nat → va_E} {q : Nat → Nat} {cy : Nat → ClassId} {rv : Value} {E : Nat} {TL : List Tx5} {u3 u4 u5 u6 u7 u8 u9 u10 u11 : Nat → Int32} (h : lyR C q cy rv E TL u3 u4 u5 u6 u7 u8 u9 u10 u11) (e : ∀ k, 120 ≤ k → k < 130 → C' k = C k) : lyR C' q cy rv E TL u3 u4 u5 u6 u7 u8 u9 u10 u11 := by
  obtain ⟨⟨a0, a1, a2, a3, a4, a5, a6, a7, a8, a9⟩, hl⟩ := h
  exact ⟨⟨(e 120 (by decide) (by decide)).trans a0, (e 121 (by decide) (by decide)).trans a1, (e 122 (by decide) (by decide)).trans a2, (e 123 (by decide) (by decide)).trans a3, (e 124 (by decide) (by decide)).trans a4, (e 125 (by decide) (by decide)).trans a5, (e 126 (by decide) (by decide)).trans a6, (e 127 (by decide) (by decide)).trans a7, (e 128 (by decide) (by decide)).trans a8, (e 129 (by decide) (by decide)).trans a9⟩, hl⟩
set_option maxHeartbeats 400000 in
theorem laH_x {u3 u4 u5 u6 u7 u8 u9 u10 u11 : Nat → Int32} : ∀ TL t k o, laH u3 u4 u5 u6 u7 u8 u9 u10 u11 TL t k o → ∀ m, m < TL.length → (u3 (t + m) = nI (TL.getD m d5).1 ∧ u3 (t + m + 1) = nI (TL.getD m d5).2.2.2.2 ∧ u4 (t + m) = nI (k + nIn (TL.take m)) ∧ u4 (t + m + 1) = nI (k + nIn (TL.take (m + 1))) ∧ u5 (t + m) = nI (o + nOut (TL.take m)) ∧ u5 (t + m + 1) = nI (o + nOut (TL.take (m + 1)))) ∧ hld u6 u7 u8 (k + nIn (TL.take m)) (TL.getD m d5).2.1 ∧ hld u9 u10 u11 (o + nOut (TL.take m)) (TL.getD m d5).2.2.2.1
  | [], _, _, _, _, m, hm => absurd hm (Nat.not_lt_zero _)
  | T :: TL, t, k, o, h, 0, _ => by
    obtain ⟨⟨a1, a2, a3, a4, a5, a6⟩, b, c, -⟩ := h
    exact ⟨⟨a1, a2, a3, a4, a5, a6⟩, b, c⟩
  | T :: TL, t, k, o, h, m + 1, hm => by
    have ih := laH_x TL (t + 1) (k + T.2.1.length) (o + T.2.2.2.1.length) h.2.2.2 m (Nat.lt_of_succ_lt_succ hm)
    have e1 : ∀ m, k + nIn ((T :: TL).take (m + 1)) = k + T.2.1.length + nIn (TL.take m) := fun m => (Nat.add_assoc _ _ _).symm
    have e2 : ∀ m, o + nOut ((T :: TL).take (m + 1)) = o + T.2.2.2.1.length + nOut (TL.take m) := fun m => (Nat.add_assoc _ _ _).symm
    rw [e1, e1, e2, e2, show t + (m + 1) = t + 1 + m from by omega]
    exact ih
/-- a transaction's hash -/
def idL (g : Nat → Int32) (TL : List Tx5) (t : Nat) : Nat → Int32 := dbl (fun i => g ((TL.getD t d5).1 + i)) ((TL.getD t d5).2.2.2.2 - (TL.getD t d5).1)
set_option maxHeartbeats 400000 in
theorem gDm {TL : List Tx5} {t : Nat} (h : t < TL.length) : TL.getD t d5 ∈ TL := by
  rw [List.getD_eq_getElem?_getD, List.getElem?_eq_getElem h]
  exact List.getElem_mem h
set_option maxHeartbeats 1000000 in
theorem w_ids15 (fu MC MS : Nat) (cy : Nat → ClassId) (ad : Nat → Nat) (mi : Nat) (hfu : 4000 ≤ fu) {P : Nat → Prop} {q : Nat → Nat} (hq : IJ P q) (hP : ∀ k, k < 138 ∧ k ≠ 29 ∧ k ≠ 137 ∧ k ≠ 135 → P k) {ks kd n1 E a0 : Nat} (hks : P ks) (hkd : P kd) (h1 : 102 ≤ ks ∧ (ks < 106 ∨ 138 ≤ ks)) (h2 : 138 ≤ kd) (hne : ks ≠ kd) {g : Nat → Int32} (hg : ∀ j, j < E → fits .byte (.int (g j)) = true) (hE : E ≤ n1) (hE3 : E ≤ 3000) (hn1 : n1 < 2 ^ 30) {TL : List Tx5} (hT : txB E TL a0) {u3 u4 u5 u6 u7 u8 u9 u10 u11 : Nat → Int32} {C0 : Nat → va_E} (hL : lyR C0 q cy (.ref (q ks)) E TL u3 u4 u5 u6 u7 u8 u9 u10 u11) (eks : C0 ks = .inl (cy 0, n1, .inl g)) {Φ : Option Nat → Mm → Prop} {κ σ : Nat} (hΦ : ∀ M' C' d', RG P q C' M' → shX C' q cy → C' kd = .inl (cy 0, 32 * TL.length + 32, .inl d') → ftB d' → (∀ t, t < TL.length → ∀ j, j < 32 → d' (32 * t + j) = idL g TL t j) → (∀ j, 32 * TL.length ≤ j → d' j = 0) → fS kd C0 C' → Φ (some (q kd)) M') : ∀ r t m C M d, t + r = TL.length → r < m → RG P q C M → shX C q cy → C kd = .inl (cy 0, 32 * TL.length + 32, .inl d) → ftB d → (∀ t', t' < t → ∀ j, j < 32 → d (32 * t' + j) = idL g TL t' j) → (∀ j, 32 * t ≤ j → d j = 0) → fS kd C0 C → xw_mLa_ids_15 fu MC MS cy ad mi Φ m κ σ M (q 120) (q 106) (q kd) (nI t)
  | r, t, m + 1, C, M, d, ht, hm, hM, hs, hd, hf, hv, hz, hF => by
    show xv_mLa_ids_15 fu MC MS cy ad mi Φ (xw_mLa_ids_15 fu MC MS cy ad mi Φ m) κ σ M (q 120) (q 106) (q kd) (nI t)
    unfold xv_mLa_ids_15
    have hL' : lyR C q cy (.ref (q ks)) E TL u3 u4 u5 u6 u7 u8 u9 u10 u11 := lyR_c hL (fun k k1 k2 => hF k (Or.inr (by omega)) (by omega))
    have hn := txB_n TL a0 hT
    obtain ⟨⟨a0', a1, -⟩, hlH⟩ := hL'
    have mL := g_at hM (hP 120 (by decide)) a0'
    have mA := g_at hM (hP 121 (by decide)) a1
    refine m_gi mL rfl ?_
    match r, ht, hm with
    | 0, ht, hm =>
      have e : t = TL.length := by omega
      subst e
      exact m_t ((nI_leI (a := TL.length) (b := TL.length) (by omega) (by omega)).mpr (Nat.le_refl _)) (hΦ M C d hM hs hd hf hv hz hF)
    | r + 1, ht, hm =>
      have htl : t < TL.length := by omega
      obtain ⟨⟨x1, x2, -⟩, -⟩ := laH_x TL 0 0 0 hlH t htl
      rw [Nat.zero_add] at x1 x2
      obtain ⟨-, -, -, y1, -, y2⟩ := txB_at TL a0 hT _ (gDm htl)
      have v1 : u3 (nI t).toNatClampNeg = nI (TL.getD t d5).1 := by rw [nI_clamp (n := t) (by omega)]; exact x1
      have v2 : u3 (nI (t + 1)).toNatClampNeg = nI (TL.getD t d5).2.2.2.2 := by rw [nI_clamp (n := t + 1) (by omega)]; exact x2
      refine m_f (fun z => absurd ((nI_leI (a := TL.length) (b := t) (by omega) (by omega)).mp z) (by omega)) (m_grp mL (x := q ks) rfl (m_gr mL rfl (m_ai mA (inb_nI (by omega) (by decide)) (m_gr mL rfl (m_bn (e' := nI (t + 1)) (nI_add t 1) (m_ai mA (inb_nI (by omega) (by decide)) (m_gr mL rfl (m_ai mA (inb_nI (by omega) (by decide)) ?_))))))))
      rw [v1, v2]
      refine m_bn (e' := nI ((TL.getD t d5).2.2.2.2 - (TL.getD t d5).1)) (nI_sb (by omega)) (m_bn (e' := nI (32 * t)) (pk_mul 32 t) (m_f (fun z => hne (hq _ _ hks hkd z)) ?_))
      refine w_Tw fu hfu hM hq hP hs hks hkd (by omega) (by omega) hne ((hF ks (by omega) hne).trans eks) hd hn1 (by omega) (by omega) (by omega) (by omega) (fun j hj => hg _ (by omega)) hf _ (fun M' C' d' hM' hs' hd' hj hF' => m_bn (e' := nI (t + 1)) (nI_add t 1) ?_)
      have hf' : ftB d' := ftB_r hf (fun j => dbl_f _ _ j) hj
      refine w_ids15 fu MC MS cy ad mi hfu hq hP hks hkd h1 h2 hne hg hE hE3 hn1 hT hL eks hΦ r (t + 1) m C' M' d' (by omega) (by omega) hM' hs' hd' hf' (fun t' ht' j hj' => ?_) (fun j hj' => ?_) (fS_t hF hF')
      · rw [hj]
        by_cases e : t' = t
        · subst e
          rw [if_pos (by omega), Nat.add_sub_cancel_left]
          rfl
        · rw [if_neg (by omega)]
          exact hv t' (by omega) j hj'
      · rw [hj, if_neg (by omega)]
        exact hz j (by omega)
