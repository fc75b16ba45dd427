-- the layout reads in the memory
def lyX (C : Nat → va_E) (q : Nat → Nat) (cy : Nat → ClassId) : Prop := ∃ rv i1 i2 i3 i4 i5, ∃ (u3 u4 u5 u6 u7 u8 u9 u10 u11 : Nat → Int32), C 120 = laO q rv i1 i2 i3 i4 i5 ∧ C 121 = .inl (cy 1, 301, .inl u3) ∧ C 122 = .inl (cy 1, 301, .inl u4) ∧ C 123 = .inl (cy 1, 301, .inl u5) ∧ C 124 = .inl (cy 1, 73, .inl u6) ∧ C 125 = .inl (cy 1, 73, .inl u7) ∧ C 126 = .inl (cy 1, 73, .inl u8) ∧ C 127 = .inl (cy 1, 333, .inl u9) ∧ C 128 = .inl (cy 1, 333, .inl u10) ∧ C 129 = .inl (cy 1, 333, .inl u11)
set_option maxHeartbeats 400000 in
theorem lyX_r {C : Nat → va_E} {q : Nat → Nat} {cy : Nat → ClassId} {rv : Value} {E : Nat} {TL : List Tx5} {u3 u4 u5 u6 u7 u8 u9 u10 u11 : Nat → Int32} (h : lyR C q cy rv E TL u3 u4 u5 u6 u7 u8 u9 u10 u11) : lyX C q cy := ⟨_, _, _, _, _, _, u3, u4, u5, u6, u7, u8, u9, u10, u11, h.1⟩
def fY (C C' : Nat → va_E) : Prop := ∀ k, (k < 120 ∨ 129 < k) → C' k = C k
def lyU (C : Nat → va_E) (q : Nat → Nat) (cy : Nat → ClassId) (rv : Value) (i1 i2 i3 i4 i5 : Int32) (v3 v4 v5 v6 v7 v8 v9 v10 v11 : Nat → Int32) (k : Nat) : va_E := if k = 120 then laO q rv i1 i2 i3 i4 i5 else if k = 121 then .inl (cy 1, 301, .inl v3) else if k = 122 then .inl (cy 1, 301, .inl v4) else if k = 123 then .inl (cy 1, 301, .inl v5) else if k = 124 then .inl (cy 1, 73, .inl v6) else if k = 125 then .inl (cy 1, 73, .inl v7) else if k = 126 then .inl (cy 1, 73, .inl v8) else if k = 127 then .inl (cy 1, 333, .inl v9) else if k = 128 then .inl (cy 1, 333, .inl v10) else if k = 129 then .inl (cy 1, 333, .inl v11) else C k
set_option maxHeartbeats 400000 in
theorem lyU_n {C : Nat → va_E} {q : Nat → Nat} {cy : Nat → ClassId} {rv : Value} {i1 i2 i3 i4 i5 : Int32} {v3 v4 v5 v6 v7 v8 v9 v10 v11 : Nat → Int32} : fY C (lyU C q cy rv i1 i2 i3 i4 i5 v3 v4 v5 v6 v7 v8 v9 v10 v11) := fun k h => by
  unfold lyU
  rw [if_neg (show ¬ k = 120 by omega), if_neg (show ¬ k = 121 by omega), if_neg (show ¬ k = 122 by omega), if_neg (show ¬ k = 123 by omega), if_neg (show ¬ k = 124 by omega), if_neg (show ¬ k = 125 by omega), if_neg (show ¬ k = 126 by omega), if_neg (show ¬ k = 127 by omega), if_neg (show ¬ k = 128 by omega), if_neg (show ¬ k = 129 by omega)]
set_option maxHeartbeats 1000000 in
theorem w_Read (fu : Nat) (hfu : 500 ≤ fu) {cy : Nat → ClassId} {P : Nat → Prop} {q : Nat → Nat} {C : Nat → va_E} {M : Mm} (hM : RG P q C M) (hq : IJ P q) (hP : ∀ k, k < 138 ∧ k ≠ 29 ∧ k ≠ 137 ∧ k ≠ 135 → P k) (hl : lyX C q cy) {ks n1 E : Nat} (hks : P ks) (hk : ks < 120 ∨ 129 < ks) {g : Nat → Int32} (eks : C ks = .inl (cy 0, n1, .inl g)) (hn1 : n1 < 2 ^ 30) (hE : E ≤ n1) (hE3 : E ≤ 3000) (K : Int32 → Mm → Prop) (hK0 : ∀ M' C', pBl g E = none → RG P q C' M' → lyX C' q cy → fY C C' → K 0 M') (hK1 : ∀ TL M' C' v3 v4 v5 v6 v7 v8 v9 v10 v11, pBl g E = some TL → RG P q C' M' → lyR C' q cy (.ref (q ks)) E TL v3 v4 v5 v6 v7 v8 v9 v10 v11 → fY C C' → K 1 M') : ∃ (b5 : Value) (b6 : Nat) (b7 : Nat) (b8 : Nat) (b9 : Nat) (b10 : Nat) (b11 : Nat) (b12 : Nat) (b13 : Nat) (b14 : Nat) (c15 : Nat) (c16 : Nat → Int32) (c17 : Int32) (c18 : Int32) (c19 : Int32) (c20 : Int32) (c21 : Int32) (c22 : Nat → Int32) (c23 : Nat → Int32) (c24 : Nat → Int32) (c25 : Nat → Int32) (c26 : Nat → Int32) (c27 : Nat → Int32) (c28 : Nat → Int32) (c29 : Nat → Int32) (c30 : Nat → Int32), mal M [((q 120), .inr (4, [b5, .int c17, .ref b6, .ref b7, .ref b8, .ref b9, .ref b10, .ref b11, .ref b12, .ref b13, .ref b14, .int c18, .int c19, .int c20, .int c21])), (b6, .inl (cy 1, 301, .inl c22)), (b7, .inl (cy 1, 301, .inl c23)), (b8, .inl (cy 1, 301, .inl c24)), (b9, .inl (cy 1, 73, .inl c25)), (b10, .inl (cy 1, 73, .inl c26)), (b11, .inl (cy 1, 73, .inl c27)), (b12, .inl (cy 1, 333, .inl c28)), (b13, .inl (cy 1, 333, .inl c29)), (b14, .inl (cy 1, 333, .inl c30)), ((q ks), .inl (cy 0, c15, .inl c16))] ∧ mnd (List.map (fun x : Nat × va_E => x.1) [((q 120), .inr (4, [b5, .int c17, .ref b6, .ref b7, .ref b8, .ref b9, .ref b10, .ref b11, .ref b12, .ref b13, .ref b14, .int c18, .int c19, .int c20, .int c21])), (b6, .inl (cy 1, 301, .inl c22)), (b7, .inl (cy 1, 301, .inl c23)), (b8, .inl (cy 1, 301, .inl c24)), (b9, .inl (cy 1, 73, .inl c25)), (b10, .inl (cy 1, 73, .inl c26)), (b11, .inl (cy 1, 73, .inl c27)), (b12, .inl (cy 1, 333, .inl c28)), (b13, .inl (cy 1, 333, .inl c29)), (b14, .inl (cy 1, 333, .inl c30)), ((q ks), .inl (cy 0, c15, .inl c16))]) ∧ ∃ (v31 : Int32) (c32 : Int32) (c33 : Int32) (c34 : Int32) (c35 : Int32) (c36 : Int32) (c37 : Nat → Int32) (c38 : Nat → Int32) (c39 : Nat → Int32) (c40 : Nat → Int32) (c41 : Nat → Int32) (c42 : Nat → Int32) (c43 : Nat → Int32) (c44 : Nat → Int32) (c45 : Nat → Int32), x_La_read fu c15 c16 (nI E) c17 c18 c19 c20 c21 c22 c23 c24 c25 c26 c27 c28 c29 c30 = some (v31, c32, c33, c34, c35, c36, c37, c38, c39, c40, c41, c42, c43, c44, c45) ∧ bnd (mov M [((q 120), .inr (4, [.ref (q ks), .int c32, .ref b6, .ref b7, .ref b8, .ref b9, .ref b10, .ref b11, .ref b12, .ref b13, .ref b14, .int c33, .int c34, .int c35, .int c36])), (b6, .inl (cy 1, 301, .inl c37)), (b7, .inl (cy 1, 301, .inl c38)), (b8, .inl (cy 1, 301, .inl c39)), (b9, .inl (cy 1, 73, .inl c40)), (b10, .inl (cy 1, 73, .inl c41)), (b11, .inl (cy 1, 73, .inl c42)), (b12, .inl (cy 1, 333, .inl c43)), (b13, .inl (cy 1, 333, .inl c44)), (b14, .inl (cy 1, 333, .inl c45)), ((q ks), .inl (cy 0, c15, .inl c16))]) fun M46 => K v31 M46 := by
  obtain ⟨rv, i1, i2, i3, i4, i5, u3, u4, u5, u6, u7, u8, u9, u10, u11, a0, a1, a2, a3, a4, a5, a6, a7, a8, a9⟩ := hl
  obtain ⟨⟨v, j1, j2, j3, j4, j5, v3, v4, v5, v6, v7, v8, v9, v10, v11⟩, he, hQ⟩ := v_La_read fu hfu n1 hn1 g hE hE3 i1 i2 i3 i4 i5 u3 u4 u5 u6 u7 u8 u9 u10 u11
  have hin : ∀ k, k ∈ [120, 121, 122, 123, 124, 125, 126, 127, 128, 129, ks] → P k := fun k hk => by
    simp only [List.mem_cons, List.not_mem_nil, or_false] at hk
    rcases hk with e | e | e | e | e | e | e | e | e | e | e
    · exact hP _ (by omega)
    · exact hP _ (by omega)
    · exact hP _ (by omega)
    · exact hP _ (by omega)
    · exact hP _ (by omega)
    · exact hP _ (by omega)
    · exact hP _ (by omega)
    · exact hP _ (by omega)
    · exact hP _ (by omega)
    · exact hP _ (by omega)
    · rw [e]; exact hks
  refine ⟨_, _, _, _, _, _, _, _, _, _, _, _, _, _, _, _, _, _, _, _, _, _, _, _, _, _, mal_c (g_at hM (hP 120 (by decide)) a0) (mal_c (g_at hM (hP 121 (by decide)) a1) (mal_c (g_at hM (hP 122 (by decide)) a2) (mal_c (g_at hM (hP 123 (by decide)) a3) (mal_c (g_at hM (hP 124 (by decide)) a4) (mal_c (g_at hM (hP 125 (by decide)) a5) (mal_c (g_at hM (hP 126 (by decide)) a6) (mal_c (g_at hM (hP 127 (by decide)) a7) (mal_c (g_at hM (hP 128 (by decide)) a8) (mal_c (g_at hM (hP 129 (by decide)) a9) (mal_c (g_at hM hks eks) (mal_n _))))))))))), gnd hq [120, 121, 122, 123, 124, 125, 126, 127, 128, 129, ks] hin ?_, _, _, _, _, _, _, _, _, _, _, _, _, _, _, _, he, ?_⟩
  · simp only [List.nodup_cons, List.mem_cons, List.not_mem_nil, not_false_eq_true, List.nodup_nil, and_true, or_false]
    omega
  · have f5 : lyU C q cy (.ref (q ks)) j1 j2 j3 j4 j5 v3 v4 v5 v6 v7 v8 v9 v10 v11 ks = .inl (cy 0, n1, .inl g) := (lyU_n ks hk).trans eks
    have L := g_lf (K := K v) hM hq (lyU C q cy (.ref (q ks)) j1 j2 j3 j4 j5 v3 v4 v5 v6 v7 v8 v9 v10 v11) [120, 121, 122, 123, 124, 125, 126, 127, 128, 129, ks] hin (fun k _ hk => lyU_n k ?_) (fun M' hM' => ?_)
    · rw [show [120, 121, 122, 123, 124, 125, 126, 127, 128, 129, ks].map (fun k => (q k, lyU C q cy (.ref (q ks)) j1 j2 j3 j4 j5 v3 v4 v5 v6 v7 v8 v9 v10 v11 k)) = [(q 120, laO q (.ref (q ks)) j1 j2 j3 j4 j5), (q 121, .inl (cy 1, 301, .inl v3)), (q 122, .inl (cy 1, 301, .inl v4)), (q 123, .inl (cy 1, 301, .inl v5)), (q 124, .inl (cy 1, 73, .inl v6)), (q 125, .inl (cy 1, 73, .inl v7)), (q 126, .inl (cy 1, 73, .inl v8)), (q 127, .inl (cy 1, 333, .inl v9)), (q 128, .inl (cy 1, 333, .inl v10)), (q 129, .inl (cy 1, 333, .inl v11)), (q ks, lyU C q cy (.ref (q ks)) j1 j2 j3 j4 j5 v3 v4 v5 v6 v7 v8 v9 v10 v11 ks)] from rfl, f5] at L
      exact L
    · simp only [List.mem_cons, List.not_mem_nil, or_false] at hk
      omega
    · rcases hQ with ⟨e1, e2⟩ | ⟨TL, e1, e2, e3, e4, e5, e6, e7, hl⟩
      · replace e2 : v = 0 := e2
        subst e2
        exact hK0 M' _ e1 hM' ⟨_, _, _, _, _, _, v3, v4, v5, v6, v7, v8, v9, v10, v11, rfl, rfl, rfl, rfl, rfl, rfl, rfl, rfl, rfl, rfl⟩ lyU_n
      · replace e2 : v = 1 := e2
        replace e3 : j1 = nI TL.length := e3
        replace e4 : j2 = nI E := e4
        replace e5 : j3 = nI E := e5
        replace e6 : j4 = nI (nIn TL) := e6
        replace e7 : j5 = nI (nOut TL) := e7
        replace hl : laH v3 v4 v5 v6 v7 v8 v9 v10 v11 TL 0 0 0 := hl
        subst e2 e3 e4 e5 e6 e7
        exact hK1 TL M' _ v3 v4 v5 v6 v7 v8 v9 v10 v11 e1 hM' ⟨⟨rfl, rfl, rfl, rfl, rfl, rfl, rfl, rfl, rfl, rfl⟩, hl⟩ lyU_n
set_option maxHeartbeats 1000000 in
theorem w_Snd (fu : Nat) (hfu : 4000 ≤ fu) {cy : Nat → ClassId} {P : Nat → Prop} {q : Nat → Nat} {C : Nat → va_E} {M : Mm} (hM : RG P q C M) (hq : IJ P q) (hP : ∀ k, k < 138 ∧ k ≠ 29 ∧ k ≠ 137 ∧ k ≠ 135 → P k) {ks nr E a0 h tm : Nat} {TL : List Tx5} {u3 u4 u5 u6 u7 u8 u9 u10 u11 : Nat → Int32} (hl : lyR C q cy (.ref (q ks)) E TL u3 u4 u5 u6 u7 u8 u9 u10 u11) (hks : P ks) (hk : ks < 120 ∨ 129 < ks) {g : Nat → Int32} (eks : C ks = .inl (cy 0, nr, .inl g)) (hn : nr ≤ 3000) (hE : E ≤ nr) (hB : txB E TL a0) (hh : h < 128) (htm : tm < 2 ^ 32) (K : Int32 → Mm → Prop) (hK : ∀ v M', tf (sndS (TL.map (txV g)) h tm) v → RG P q C M' → K v M') : ∃ (b125 : Nat) (b126 : Nat) (b127 : Nat) (b128 : Nat) (b129 : Nat) (b130 : Nat) (b131 : Nat) (b132 : Nat) (b133 : Nat) (b134 : Nat) (c135 : Int32) (c136 : Int32) (c137 : Int32) (c138 : Int32) (c139 : Int32) (c140 : Nat) (c141 : Nat → Int32) (c142 : Nat → Int32) (c143 : Nat → Int32) (c144 : Nat → Int32) (c145 : Nat → Int32) (c146 : Nat → Int32) (c147 : Nat → Int32) (c148 : Nat → Int32) (c149 : Nat → Int32) (c150 : Nat → Int32), mal M [((q 120), .inr (4, [.ref b125, .int c135, .ref b126, .ref b127, .ref b128, .ref b129, .ref b130, .ref b131, .ref b132, .ref b133, .ref b134, .int c136, .int c137, .int c138, .int c139])), (b125, .inl (cy 0, c140, .inl c141)), (b126, .inl (cy 1, 301, .inl c142)), (b127, .inl (cy 1, 301, .inl c143)), (b128, .inl (cy 1, 301, .inl c144)), (b129, .inl (cy 1, 73, .inl c145)), (b130, .inl (cy 1, 73, .inl c146)), (b131, .inl (cy 1, 73, .inl c147)), (b132, .inl (cy 1, 333, .inl c148)), (b133, .inl (cy 1, 333, .inl c149)), (b134, .inl (cy 1, 333, .inl c150))] ∧ mnd (List.map (fun x : Nat × va_E => x.1) [((q 120), .inr (4, [.ref b125, .int c135, .ref b126, .ref b127, .ref b128, .ref b129, .ref b130, .ref b131, .ref b132, .ref b133, .ref b134, .int c136, .int c137, .int c138, .int c139])), (b125, .inl (cy 0, c140, .inl c141)), (b126, .inl (cy 1, 301, .inl c142)), (b127, .inl (cy 1, 301, .inl c143)), (b128, .inl (cy 1, 301, .inl c144)), (b129, .inl (cy 1, 73, .inl c145)), (b130, .inl (cy 1, 73, .inl c146)), (b131, .inl (cy 1, 73, .inl c147)), (b132, .inl (cy 1, 333, .inl c148)), (b133, .inl (cy 1, 333, .inl c149)), (b134, .inl (cy 1, 333, .inl c150))]) ∧ ∃ (v151 : Int32), x_La_isSound fu c135 c136 c137 c138 c139 c140 c141 c142 c143 c144 c145 c146 c147 c148 c149 c150 (nI h) (lN tm) = some (v151) ∧ bnd (mov M [((q 120), .inr (4, [.ref b125, .int c135, .ref b126, .ref b127, .ref b128, .ref b129, .ref b130, .ref b131, .ref b132, .ref b133, .ref b134, .int c136, .int c137, .int c138, .int c139])), (b125, .inl (cy 0, c140, .inl c141)), (b126, .inl (cy 1, 301, .inl c142)), (b127, .inl (cy 1, 301, .inl c143)), (b128, .inl (cy 1, 301, .inl c144)), (b129, .inl (cy 1, 73, .inl c145)), (b130, .inl (cy 1, 73, .inl c146)), (b131, .inl (cy 1, 73, .inl c147)), (b132, .inl (cy 1, 333, .inl c148)), (b133, .inl (cy 1, 333, .inl c149)), (b134, .inl (cy 1, 333, .inl c150))]) fun M152 => K v151 M152 := by
  obtain ⟨⟨b0, a1, a2, a3, a4, a5, a6, a7, a8, a9⟩, hL⟩ := hl
  obtain ⟨v, he, hv⟩ := v_La_isSound fu hfu nr hn g hE hB hh htm hL (nI E) (nI E)
  have hin : ∀ k, k ∈ [120, ks, 121, 122, 123, 124, 125, 126, 127, 128, 129] → P k := fun k hk => by
    simp only [List.mem_cons, List.not_mem_nil, or_false] at hk
    rcases hk with e | e | e | e | e | e | e | e | e | e | e
    · exact hP _ (by omega)
    · rw [e]; exact hks
    · exact hP _ (by omega)
    · exact hP _ (by omega)
    · exact hP _ (by omega)
    · exact hP _ (by omega)
    · exact hP _ (by omega)
    · exact hP _ (by omega)
    · exact hP _ (by omega)
    · exact hP _ (by omega)
    · exact hP _ (by omega)
  refine ⟨_, _, _, _, _, _, _, _, _, _, _, _, _, _, _, _, _, _, _, _, _, _, _, _, _, _, mal_c (g_at hM (hP 120 (by decide)) b0) (mal_c (g_at hM hks eks) (mal_c (g_at hM (hP 121 (by decide)) a1) (mal_c (g_at hM (hP 122 (by decide)) a2) (mal_c (g_at hM (hP 123 (by decide)) a3) (mal_c (g_at hM (hP 124 (by decide)) a4) (mal_c (g_at hM (hP 125 (by decide)) a5) (mal_c (g_at hM (hP 126 (by decide)) a6) (mal_c (g_at hM (hP 127 (by decide)) a7) (mal_c (g_at hM (hP 128 (by decide)) a8) (mal_c (g_at hM (hP 129 (by decide)) a9) (mal_n _))))))))))), gnd hq [120, ks, 121, 122, 123, 124, 125, 126, 127, 128, 129] hin ?_, v, he, ?_⟩
  · simp only [List.nodup_cons, List.mem_cons, List.not_mem_nil, not_false_eq_true, List.nodup_nil, and_true, or_false]
    omega
  · have L := g_lf (K := K v) hM hq C [120, ks, 121, 122, 123, 124, 125, 126, 127, 128, 129] hin (fun k _ _ => rfl) (fun M' hM' => hK v M' hv hM')
    rw [show [120, ks, 121, 122, 123, 124, 125, 126, 127, 128, 129].map (fun k => (q k, C k)) = [(q 120, C 120), (q ks, C ks), (q 121, C 121), (q 122, C 122), (q 123, C 123), (q 124, C 124), (q 125, C 125), (q 126, C 126), (q 127, C 127), (q 128, C 128), (q 129, C 129)] from rfl, b0, eks, a1, a2, a3, a4, a5, a6, a7, a8, a9] at L
    exact L
set_option maxHeartbeats 400000 in
/-- whether the root is right -/
theorem w_root (fu MC MS : Nat) (cy : Nat → ClassId) (ad : Nat → Nat) (mi : Nat) (hfu : 4000 ≤ fu) {P : Nat → Prop} {q : Nat → Nat} {C : Nat → va_E} {M : Mm} (hM : RG P q C M) (hq : IJ P q) (hP : ∀ k, k < 138 ∧ k ≠ 29 ∧ k ≠ 137 ∧ k ≠ 135 → P k) (hs : shX C q cy) (h225 : ¬ P 225) {ks n1 E a0 : Nat} (hks : P ks) (h1 : 102 ≤ ks ∧ (ks < 106 ∨ 138 ≤ ks)) {g : Nat → Int32} (hg : ∀ j, j < E → fits .byte (.int (g j)) = true) (h68 : 80 ≤ E) (hE : E ≤ n1) (hE3 : E ≤ 3000) (hn1 : n1 < 2 ^ 30) {TL : List Tx5} (hT : txB E TL a0) {u3 u4 u5 u6 u7 u8 u9 u10 u11 : Nat → Int32} (hL : lyR C q cy (.ref (q ks)) E TL u3 u4 u5 u6 u7 u8 u9 u10 u11) (eks : C ks = .inl (cy 0, n1, .inl g)) {Φ : Int32 → Mm → Prop} {κ σ : Nat} (hκ : κ + 1 ≤ MC ∧ σ + (32 * TL.length + 32) ≤ MS) (hΦ : ∀ v M' C', tf (rtQ (bl g 36 32) 10 TL.length (idL g TL)) v → RG P q C' M' → shX C' q cy → fS 225 C C' → Φ v M') : xw_mLa_rootIsRight fu MC MS cy ad mi Φ κ σ M (q 120) (q 106) := by
  have hn := txB_n TL a0 hT
  unfold xw_mLa_rootIsRight
  refine m_ck (g_at hM (hP 120 (by decide)) hL.1.1) ⟨1, 32 * TL.length + 32, hκ, ?_⟩
  refine w_ids fu 1 (32 * TL.length + 32) cy ad mi hfu hM hq hP hs hks h225 h1 hg hE hE3 hn1 hT hL eks (by omega) (fun a M' C' d' b1 b2 b3 b4 b5 b6 b7 b8 => ⟨a, rfl, ?_⟩)
  have qe : ∀ j, P j → va_up q 225 a j = q j := fun j hj => up_n (fun e => h225 (e ▸ hj))
  have hne : ks ≠ 225 := fun e => h225 (e ▸ hks)
  have hL' : lyR C' (va_up q 225 a) cy (.ref (va_up q 225 a ks)) E TL u3 u4 u5 u6 u7 u8 u9 u10 u11 := by
    rw [qe ks hks]
    exact lyR_q hL (fun k k1 k2 => ⟨b8 k (by omega) (by omega), qe k (hP k (by omega))⟩)
  have mL := g_at b1 (Or.inl (hP 120 (by decide))) hL'.1.1
  have key := w_rt11 fu MC MS cy ad mi hfu (P := fun j => P j ∨ j = 225) (q := va_up q 225 a) b2 (fun k hk => Or.inl (hP k hk)) (kd := 225) (m := 32 * TL.length + 32) (Or.inr rfl) (by decide) (by omega) (C0 := C') (Φ := Φ) (κ := κ + 1) (σ := σ + (32 * TL.length + 32)) (ks := ks) (n1 := n1) (E := E) (Or.inl hks) h1 hne (g := g) (by omega) hn1 (TL := TL) hL' ((b8 ks (by omega) hne).trans eks) 9 TL.length fu (idL g TL) C' M' d' (by omega) (by omega) (by omega) (by omega) b1 b3 b4 b5 (fun k _ hk => b6 k hk) (fun k _ j _ => dbl_f _ _ j) (fun e j _ => b7 j (by omega)) (fun _ _ _ => rfl) (fun v M2 C2 c1 c2 c3 c4 => hΦ v M2 C2 c1 (fun j hj => by
    have := c2 j (Or.inl hj)
    rw [qe j hj] at this
    exact this) (shX_q c3 (fun k k1 k2 => ⟨rfl, (qe k (hP k (by omega))).symm⟩)) (fS_t b8 c4))
  rw [qe 120 (hP 120 (by decide)), qe 106 (hP 106 (by decide)), up_e] at key
  rw [qe 120 (hP 120 (by decide))] at mL
  exact m_gi mL rfl key
