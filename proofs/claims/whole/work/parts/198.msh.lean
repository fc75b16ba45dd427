-- the class's machine in the memory: SHA's steps
def maO (q : Nat → Nat) (h oh op i1 i2 fr : Int32) (ly : Value) (tx inn : Int32) (co : Value) (mit : Int32) : va_E := .inr (6, [.ref (q 106), .ref (q 0), .ref (q 111), .ref (q 102), .ref (q 116), .ref (q 117), .ref (q 118), .ref (q 119), .int h, .int oh, .int op, .int i1, .int i2, .int fr, ly, .int tx, .int inn, co, .int mit])
def laO (q : Nat → Nat) (rw : Value) (txs e1 e2 e3 e4 : Int32) : va_E := .inr (4, [rw, .int txs, .ref (q 121), .ref (q 122), .ref (q 123), .ref (q 124), .ref (q 125), .ref (q 126), .ref (q 127), .ref (q 128), .ref (q 129), .int e1, .int e2, .int e3, .int e4])
def shO (q : Nat → Nat) (fl : Int32) (ln : Int64) : va_E := .inr (9, [.ref (q 107), .ref (q 108), .ref (q 109), .int fl, .long ln])
def shR (C : Nat → va_E) (q : Nat → Nat) (cy : Nat → ClassId) (fl : Int32) (ln : Int64) (st w ck : Nat → Int32) : Prop := C 106 = shO q fl ln ∧ C 107 = .inl (cy 1, 8, .inl st) ∧ C 108 = .inl (cy 1, 64, .inl w) ∧ C 109 = .inl (cy 0, 64, .inl ck)
def shU (C : Nat → va_E) (q : Nat → Nat) (cy : Nat → ClassId) (fl : Int32) (ln : Int64) (st w ck : Nat → Int32) : Nat → va_E := va_up (va_up (va_up (va_up C 106 (shO q fl ln)) 107 (.inl (cy 1, 8, .inl st))) 108 (.inl (cy 1, 64, .inl w))) 109 (.inl (cy 0, 64, .inl ck))
set_option maxHeartbeats 1000000 in
theorem shU_n {C : Nat → va_E} {q : Nat → Nat} {cy : Nat → ClassId} {fl : Int32} {ln : Int64} {st w ck : Nat → Int32} {k : Nat} (h : k < 106 ∨ 109 < k) : shU C q cy fl ln st w ck k = C k := by
  unfold shU
  rw [up_n (by omega), up_n (by omega), up_n (by omega), up_n (by omega)]
set_option maxHeartbeats 1000000 in
theorem shU_r (C : Nat → va_E) (q : Nat → Nat) (cy : Nat → ClassId) (fl : Int32) (ln : Int64) (st w ck : Nat → Int32) : shR (shU C q cy fl ln st w ck) q cy fl ln st w ck := by
  unfold shU
  refine ⟨?_, ?_, ?_, ?_⟩
  · rw [up_n (by decide), up_n (by decide), up_n (by decide), up_e]
  · rw [up_n (by decide), up_n (by decide), up_e]
  · rw [up_n (by decide), up_e]
  · rw [up_e]
set_option maxHeartbeats 1000000 in
theorem ne4 {k : Nat} (h : k < 106 ∨ 109 < k) : k ∉ [106, 107, 108, 109] := fun hm => by
  rcases List.mem_cons.mp hm with e | hm
  · omega
  rcases List.mem_cons.mp hm with e | hm
  · omega
  rcases List.mem_cons.mp hm with e | hm
  · omega
  rcases List.mem_cons.mp hm with e | hm
  · omega
  · exact absurd hm (by simp)
set_option maxHeartbeats 1000000 in
theorem in4 {k : Nat} (h : k ∉ [106, 107, 108, 109]) : k < 106 ∨ 109 < k := by
  have h1 : k ≠ 106 := fun e => h (by rw [e]; decide)
  have h2 : k ≠ 107 := fun e => h (by rw [e]; decide)
  have h3 : k ≠ 108 := fun e => h (by rw [e]; decide)
  have h4 : k ≠ 109 := fun e => h (by rw [e]; decide)
  omega
set_option maxHeartbeats 1000000 in
theorem w_ShAdd {P : Nat → Prop} {q : Nat → Nat} {C : Nat → va_E} {M : Mm} {cy : Nat → ClassId} (hM : RG P q C M) (hq : IJ P q) (hP : ∀ k, k < 138 ∧ k ≠ 29 ∧ k ≠ 137 ∧ k ≠ 135 → P k) {ks n1 : Nat} (hks : P ks) (hk4 : ks < 106 ∨ 109 < ks) {h1 : Nat → Int32} (hk : C ks = .inl (cy 0, n1, .inl h1)) {fl : Int32} {ln : Int64} {st w ck : Nat → Int32} (hs : shR C q cy fl ln st w ck) {fu : Nat} (hfu : 20000 ≤ fu) (hn1 : n1 < 2 ^ 30) {X Y : List Int32} {a r : Nat} (ha : a + r ≤ n1) (hr : r < 20000) (hX : X.length < 2 ^ 20) (hf : ∀ j, j < r → fits .byte (.int (h1 (a + j))) = true) (hi : s_inv (lf (X ++ (bl h1 a r ++ Y))) X.length fl ln st ck) (K : Mm → Prop) (hK : ∀ fl' ln' st' w' ck' M', RG P q (shU C q cy fl' ln' st' w' ck') M' → s_inv (lf (X ++ (bl h1 a r ++ Y))) (X ++ bl h1 a r).length fl' ln' st' ck' → K M') : ∃ (b41 : Nat) (b42 : Nat) (b43 : Nat) (c44 : Nat) (c45 : Nat → Int32) (c46 : Int32) (c47 : Int64) (c48 : Nat → Int32) (c49 : Nat → Int32) (c50 : Nat → Int32), mal M [((q 106), .inr (9, [.ref b41, .ref b42, .ref b43, .int c46, .long c47])), (b41, .inl (cy 1, 8, .inl c48)), (b42, .inl (cy 1, 64, .inl c49)), (b43, .inl (cy 0, 64, .inl c50)), ((q ks), .inl (cy 0, c44, .inl c45))] ∧ mnd (List.map (fun x : Nat × va_E => x.1) [((q 106), .inr (9, [.ref b41, .ref b42, .ref b43, .int c46, .long c47])), (b41, .inl (cy 1, 8, .inl c48)), (b42, .inl (cy 1, 64, .inl c49)), (b43, .inl (cy 0, 64, .inl c50)), ((q ks), .inl (cy 0, c44, .inl c45))]) ∧ ∃ (c51 : Int32) (c52 : Int64) (c53 : Nat → Int32) (c54 : Nat → Int32) (c55 : Nat → Int32), x_Sh_add fu c44 c45 (nI a) (nI (a + r)) c46 c47 c48 c49 c50 = some (c51, c52, c53, c54, c55) ∧ bnd (mov M [((q 106), .inr (9, [.ref b41, .ref b42, .ref b43, .int c51, .long c52])), (b41, .inl (cy 1, 8, .inl c53)), (b42, .inl (cy 1, 64, .inl c54)), (b43, .inl (cy 0, 64, .inl c55)), ((q ks), .inl (cy 0, c44, .inl c45))]) fun M56 => K M56 := by
  obtain ⟨e1, e2, e3, e4⟩ := hs
  obtain ⟨⟨fl', ln', st', w', ck'⟩, he, hi'⟩ := v_Sh_add fu hfu hn1 ha hr hX hf w hi
  refine ⟨_, _, _, _, _, _, _, _, _, _, mal_c (g_at hM (hP 106 (by decide)) e1) (mal_c (g_at hM (hP 107 (by decide)) e2) (mal_c (g_at hM (hP 108 (by decide)) e3) (mal_c (g_at hM (hP 109 (by decide)) e4) (mal_c (g_at hM hks hk) (mal_n _))))), ?_, _, _, _, _, _, he, ?_⟩
  · refine gnd hq [106, 107, 108, 109, ks] (fun k hk => ?_) ?_
    · rcases List.mem_cons.mp hk with e | hk
      · exact hP k (by omega)
      rcases List.mem_cons.mp hk with e | hk
      · exact hP k (by omega)
      rcases List.mem_cons.mp hk with e | hk
      · exact hP k (by omega)
      rcases List.mem_cons.mp hk with e | hk
      · exact hP k (by omega)
      rcases List.mem_cons.mp hk with e | hk
      · rw [e]; exact hks
      · exact absurd hk (by simp)
    · simp only [List.nodup_cons, List.mem_cons, List.not_mem_nil, not_false_eq_true, List.nodup_nil, and_true, or_false]
      omega
  · have e5 : (.inl (cy 0, n1, .inl h1) : va_E) = shU C q cy fl' ln' st' w' ck' ks := by rw [shU_n hk4, hk]
    rw [e5]
    refine g_lf hM hq (shU C q cy fl' ln' st' w' ck') [106, 107, 108, 109, ks] (fun k hk => ?_) (fun k _ hk => shU_n (in4 fun hm => hk (by rcases List.mem_cons.mp hm with e | hm; exact e ▸ (by simp); rcases List.mem_cons.mp hm with e | hm; exact e ▸ (by simp); rcases List.mem_cons.mp hm with e | hm; exact e ▸ (by simp); rcases List.mem_cons.mp hm with e | hm; exact e ▸ (by simp); exact absurd hm (by simp)))) (fun M' hM' => hK _ _ _ _ _ M' hM' hi')
    rcases List.mem_cons.mp hk with e | hk
    · exact hP k (by omega)
    rcases List.mem_cons.mp hk with e | hk
    · exact hP k (by omega)
    rcases List.mem_cons.mp hk with e | hk
    · exact hP k (by omega)
    rcases List.mem_cons.mp hk with e | hk
    · exact hP k (by omega)
    rcases List.mem_cons.mp hk with e | hk
    · rw [e]; exact hks
    · exact absurd hk (by simp)
set_option maxHeartbeats 1000000 in
theorem w_ShAdd1 {P : Nat → Prop} {q : Nat → Nat} {C : Nat → va_E} {M : Mm} {cy : Nat → ClassId} (hM : RG P q C M) (hq : IJ P q) (hP : ∀ k, k < 138 ∧ k ≠ 29 ∧ k ≠ 137 ∧ k ≠ 135 → P k) {fl : Int32} {ln : Int64} {st w ck : Nat → Int32} (hs : shR C q cy fl ln st w ck) {fu : Nat} (hfu : 20000 ≤ fu) {X Y : List Int32} {a r : Nat} (ha : a + r ≤ 4) (hX : X.length < 2 ^ 20) (hi : s_inv (lf (X ++ (bl (fun j => tb_3.getD j 0) a r ++ Y))) X.length fl ln st ck) (K : Mm → Prop) (hK : ∀ fl' ln' st' w' ck' M', RG P q (shU C q cy fl' ln' st' w' ck') M' → s_inv (lf (X ++ (bl (fun j => tb_3.getD j 0) a r ++ Y))) (X ++ bl (fun j => tb_3.getD j 0) a r).length fl' ln' st' ck' → K M') : ∃ (b59 : Nat) (b60 : Nat) (b61 : Nat) (c62 : Int32) (c63 : Int64) (c64 : Nat → Int32) (c65 : Nat → Int32) (c66 : Nat → Int32), mal M [((q 106), .inr (9, [.ref b59, .ref b60, .ref b61, .int c62, .long c63])), (b59, .inl (cy 1, 8, .inl c64)), (b60, .inl (cy 1, 64, .inl c65)), (b61, .inl (cy 0, 64, .inl c66))] ∧ mnd (List.map (fun x : Nat × va_E => x.1) [((q 106), .inr (9, [.ref b59, .ref b60, .ref b61, .int c62, .long c63])), (b59, .inl (cy 1, 8, .inl c64)), (b60, .inl (cy 1, 64, .inl c65)), (b61, .inl (cy 0, 64, .inl c66))]) ∧ ∃ (c67 : Int32) (c68 : Int64) (c69 : Nat → Int32) (c70 : Nat → Int32) (c71 : Nat → Int32), x_Sh_add_s1x3 fu (nI a) (nI (a + r)) c62 c63 c64 c65 c66 = some (c67, c68, c69, c70, c71) ∧ bnd (mov M [((q 106), .inr (9, [.ref b59, .ref b60, .ref b61, .int c67, .long c68])), (b59, .inl (cy 1, 8, .inl c69)), (b60, .inl (cy 1, 64, .inl c70)), (b61, .inl (cy 0, 64, .inl c71))]) fun M72 => K M72 := by
  obtain ⟨e1, e2, e3, e4⟩ := hs
  obtain ⟨⟨fl', ln', st', w', ck'⟩, he, hi'⟩ := v_Sh_add1 fu hfu ha hX w hi
  refine ⟨_, _, _, _, _, _, _, _, mal_c (g_at hM (hP 106 (by decide)) e1) (mal_c (g_at hM (hP 107 (by decide)) e2) (mal_c (g_at hM (hP 108 (by decide)) e3) (mal_c (g_at hM (hP 109 (by decide)) e4) (mal_n _)))), ?_, _, _, _, _, _, he, ?_⟩
  · exact gnd hq [106, 107, 108, 109] (fun k hk => hP k (by have : ∀ k, k ∈ [106, 107, 108, 109] → k < 138 ∧ k ≠ 29 ∧ k ≠ 137 ∧ k ≠ 135 := by decide
                                                            exact this k hk)) (by decide)
  · exact g_lf hM hq (shU C q cy fl' ln' st' w' ck') [106, 107, 108, 109] (fun k hk => hP k (by have : ∀ k, k ∈ [106, 107, 108, 109] → k < 138 ∧ k ≠ 29 ∧ k ≠ 137 ∧ k ≠ 135 := by decide
                                                                                                exact this k hk)) (fun k _ hk => shU_n (in4 hk)) (fun M' hM' => hK _ _ _ _ _ M' hM' hi')
set_option maxHeartbeats 1000000 in
theorem w_ShBegin {P : Nat → Prop} {q : Nat → Nat} {C : Nat → va_E} {M : Mm} {cy : Nat → ClassId} (hM : RG P q C M) (hq : IJ P q) (hP : ∀ k, k < 138 ∧ k ≠ 29 ∧ k ≠ 137 ∧ k ≠ 135 → P k) {fl : Int32} {ln : Int64} {st w ck : Nat → Int32} (hs : shR C q cy fl ln st w ck) (fu : Nat) (m : Nat → Int32) (K : Mm → Prop) (hK : ∀ fl' ln' st' M', RG P q (shU C q cy fl' ln' st' w ck) M' → s_inv m 0 fl' ln' st' ck → K M') : ∃ (b95 : Value) (b96 : Value) (b97 : Nat) (c98 : Int32) (c99 : Int64) (c100 : Nat → Int32), mal M [((q 106), .inr (9, [.ref b97, b95, b96, .int c98, .long c99])), (b97, .inl (cy 1, 8, .inl c100))] ∧ mnd (List.map (fun x : Nat × va_E => x.1) [((q 106), .inr (9, [.ref b97, b95, b96, .int c98, .long c99])), (b97, .inl (cy 1, 8, .inl c100))]) ∧ ∃ (c101 : Int32) (c102 : Int64) (c103 : Nat → Int32), x_Sh_begin fu c98 c99 c100 = some (c101, c102, c103) ∧ bnd (mov M [((q 106), .inr (9, [.ref b97, b95, b96, .int c101, .long c102])), (b97, .inl (cy 1, 8, .inl c103))]) fun M104 => K M104 := by
  obtain ⟨e1, e2, e3, e4⟩ := hs
  obtain ⟨⟨fl', ln', st'⟩, he, hi'⟩ := v_Sh_begin fu m fl ln st ck
  refine ⟨_, _, _, _, _, _, mal_c (g_at hM (hP 106 (by decide)) e1) (mal_c (g_at hM (hP 107 (by decide)) e2) (mal_n _)), ?_, _, _, _, he, ?_⟩
  · exact gnd hq [106, 107] (fun k hk => hP k (by have : ∀ k, k ∈ [106, 107] → k < 138 ∧ k ≠ 29 ∧ k ≠ 137 ∧ k ≠ 135 := by decide
                                                  exact this k hk)) (by decide)
  · refine g_lf hM hq (va_up (va_up C 106 (shO q fl' ln')) 107 (.inl (cy 1, 8, .inl st'))) [106, 107] (fun k hk => hP k (by have : ∀ k, k ∈ [106, 107] → k < 138 ∧ k ≠ 29 ∧ k ≠ 137 ∧ k ≠ 135 := by decide
                                                                                                                            exact this k hk)) (fun k _ hk => ?_) (fun M' hM' => hK _ _ _ M' (RG_c hM' (fun k hk => ?_)) hi')
    · rw [up_n (fun e => hk (by rw [e]; decide)), up_n (fun e => hk (by rw [e]; decide))]
    · unfold shU
      by_cases h1 : k = 109
      · rw [h1, up_e, up_n (by decide), up_n (by decide), e4]
      · rw [up_n h1]
        by_cases h2 : k = 108
        · rw [h2, up_e, up_n (by decide), up_n (by decide), e3]
        · rw [up_n h2]
set_option maxHeartbeats 1000000 in
theorem w_ShFin {P : Nat → Prop} {q : Nat → Nat} {C : Nat → va_E} {M : Mm} {cy : Nat → ClassId} (hM : RG P q C M) (hq : IJ P q) (hP : ∀ k, k < 138 ∧ k ≠ 29 ∧ k ≠ 137 ∧ k ≠ 135 → P k) {kt n1 : Nat} (hkt : P kt) (hk4 : kt < 106 ∨ 109 < kt) {to : Nat → Int32} (hk : C kt = .inl (cy 0, n1, .inl to)) {fl : Int32} {ln : Int64} {st w ck : Nat → Int32} (hs : shR C q cy fl ln st w ck) {fu : Nat} (hfu : 20000 ≤ fu) (hn1 : n1 < 2 ^ 30) {o : Nat} (ho : o + 32 ≤ n1) {m : Nat → Int32} {n : Nat} (hi : s_inv m n fl ln st ck) (K : Mm → Prop) (hK : ∀ fl' st' w' ck' to' M', RG P q (va_up (shU C q cy fl' ln st' w' ck') kt (.inl (cy 0, n1, .inl to'))) M' → (∀ j, to' j = if o ≤ j ∧ j < o + 32 then s_ob (s_sh m n) (j - o) else to j) → K M') : ∃ (b77 : Nat) (b78 : Nat) (b79 : Nat) (c80 : Int64) (c81 : Nat) (c82 : Int32) (c83 : Nat → Int32) (c84 : Nat → Int32) (c85 : Nat → Int32) (c86 : Nat → Int32), mal M [((q 106), .inr (9, [.ref b77, .ref b78, .ref b79, .int c82, .long c80])), (b77, .inl (cy 1, 8, .inl c83)), (b78, .inl (cy 1, 64, .inl c84)), (b79, .inl (cy 0, 64, .inl c85)), ((q kt), .inl (cy 0, c81, .inl c86))] ∧ mnd (List.map (fun x : Nat × va_E => x.1) [((q 106), .inr (9, [.ref b77, .ref b78, .ref b79, .int c82, .long c80])), (b77, .inl (cy 1, 8, .inl c83)), (b78, .inl (cy 1, 64, .inl c84)), (b79, .inl (cy 0, 64, .inl c85)), ((q kt), .inl (cy 0, c81, .inl c86))]) ∧ ∃ (c87 : Int32) (c88 : Nat → Int32) (c89 : Nat → Int32) (c90 : Nat → Int32) (c91 : Nat → Int32), x_Sh_finish fu c80 c81 (nI o) c82 c83 c84 c85 c86 = some (c87, c88, c89, c90, c91) ∧ bnd (mov M [((q 106), .inr (9, [.ref b77, .ref b78, .ref b79, .int c87, .long c80])), (b77, .inl (cy 1, 8, .inl c88)), (b78, .inl (cy 1, 64, .inl c89)), (b79, .inl (cy 0, 64, .inl c90)), ((q kt), .inl (cy 0, c81, .inl c91))]) fun M92 => K M92 := by
  obtain ⟨e1, e2, e3, e4⟩ := hs
  obtain ⟨⟨fl', st', w', ck', to'⟩, he, hi'⟩ := v_Sh_fin fu hfu hn1 ho w to hi
  replace hi' : ∀ j, to' j = if o ≤ j ∧ j < o + 32 then s_ob (s_sh m n) (j - o) else to j := hi'
  refine ⟨_, _, _, _, _, _, _, _, _, _, mal_c (g_at hM (hP 106 (by decide)) e1) (mal_c (g_at hM (hP 107 (by decide)) e2) (mal_c (g_at hM (hP 108 (by decide)) e3) (mal_c (g_at hM (hP 109 (by decide)) e4) (mal_c (g_at hM hkt hk) (mal_n _))))), ?_, _, _, _, _, _, he, ?_⟩
  · refine gnd hq [106, 107, 108, 109, kt] (fun k hk => ?_) ?_
    · rcases List.mem_cons.mp hk with e | hk
      · exact hP k (by omega)
      rcases List.mem_cons.mp hk with e | hk
      · exact hP k (by omega)
      rcases List.mem_cons.mp hk with e | hk
      · exact hP k (by omega)
      rcases List.mem_cons.mp hk with e | hk
      · exact hP k (by omega)
      rcases List.mem_cons.mp hk with e | hk
      · rw [e]; exact hkt
      · exact absurd hk (by simp)
    · simp only [List.nodup_cons, List.mem_cons, List.not_mem_nil, not_false_eq_true, List.nodup_nil, and_true, or_false]
      omega
  · obtain ⟨C', hC'⟩ : ∃ C', C' = va_up (shU C q cy fl' ln st' w' ck') kt (.inl (cy 0, n1, .inl to')) := ⟨_, rfl⟩
    have r := shU_r C q cy fl' ln st' w' ck'
    have f1 : C' 106 = shO q fl' ln := by rw [hC', up_n (by omega)]; exact r.1
    have f2 : C' 107 = .inl (cy 1, 8, .inl st') := by rw [hC', up_n (by omega)]; exact r.2.1
    have f3 : C' 108 = .inl (cy 1, 64, .inl w') := by rw [hC', up_n (by omega)]; exact r.2.2.1
    have f4 : C' 109 = .inl (cy 0, 64, .inl ck') := by rw [hC', up_n (by omega)]; exact r.2.2.2
    have f5 : C' kt = .inl (cy 0, n1, .inl to') := by rw [hC', up_e]
    have L := g_lf (K := K) hM hq C' [106, 107, 108, 109, kt] (fun k hk => ?_) (fun k _ hk => ?_) (fun M' hM' => hK _ _ _ _ _ M' (by rw [← hC']; exact hM') hi')
    · rw [show [106, 107, 108, 109, kt].map (fun k => (q k, C' k)) = [(q 106, C' 106), (q 107, C' 107), (q 108, C' 108), (q 109, C' 109), (q kt, C' kt)] from rfl, f1, f2, f3, f4, f5] at L
      exact L
    · rcases List.mem_cons.mp hk with e | hk
      · exact hP k (by omega)
      rcases List.mem_cons.mp hk with e | hk
      · exact hP k (by omega)
      rcases List.mem_cons.mp hk with e | hk
      · exact hP k (by omega)
      rcases List.mem_cons.mp hk with e | hk
      · exact hP k (by omega)
      rcases List.mem_cons.mp hk with e | hk
      · rw [e]; exact hkt
      · exact absurd hk (by simp)
    · rw [hC', up_n (fun e => hk (by rw [e]; simp)), shU_n (in4 fun hm => hk (by rcases List.mem_cons.mp hm with e | hm; exact e ▸ (by simp); rcases List.mem_cons.mp hm with e | hm; exact e ▸ (by simp); rcases List.mem_cons.mp hm with e | hm; exact e ▸ (by simp); rcases List.mem_cons.mp hm with e | hm; exact e ▸ (by simp); exact absurd hm (by simp)))]
