-- points in the memory
/-- what the point with key P is -/
def pQ {F : Type} [Lean.Grind.Field F] (c : Int → F) (L : Nat → Nat → Int64) (B : Nat → Nat → Int32) (P : Nat) (A : Option (F × F)) : Prop := jI c (B P 0) (B P 1) (L (P + 1)) (L (P + 2)) (L (P + 3)) A
def isP (P : Nat) : Prop := 30 ≤ P ∧ P < 102 ∧ P % 4 = 2
/-- nothing but Curve's spare rows and point P -/
def kQ1 (P : Nat) (L L' : Nat → Nat → Int64) (B B' : Nat → Nat → Int32) : Prop := (∀ k, ¬ (18 ≤ k ∧ k < 23) → ¬ (P < k ∧ k < P + 4) → L' k = L k) ∧ ∀ k, k ≠ P → B' k = B k
set_option maxHeartbeats 400000 in
theorem sg_P {q : Nat → Nat} {cy : Nat → ClassId} {n1 : Nat} {R : Nat → Nat → Option Nat} {L : Nat → Nat → Int64} {B : Nat → Nat → Int32} {M : Mm} (hM : Rg 103 q (sgC q cy n1 R L B) M) {k : Nat} (h : isP k) : mat M (q k) (.inr (7, [.ref (q (k + 1)), .ref (q (k + 2)), .ref (q (k + 3)), .int (B k 0), .int (B k 1)])) := by
  rw [← sgC_P (cy := cy) (n1 := n1) (R := R) (L := L) h.1 h.2.1 h.2.2]
  exact hM k (by obtain ⟨h1, h2, h3⟩ := h; omega)
set_option maxHeartbeats 400000 in
theorem sg_L {q : Nat → Nat} {cy : Nat → ClassId} {n1 : Nat} {R : Nat → Nat → Option Nat} {L : Nat → Nat → Int64} {B : Nat → Nat → Int32} {M : Mm} (hM : Rg 103 q (sgC q cy n1 R L B) M) {k : Nat} (h1 : 18 ≤ k) (h2 : k < 102) (h3 : k < 30 ∨ k % 4 ≠ 2) (h29 : k ≠ 29 := by first | decide | omega) : mat M (q k) (.inl (cy 2, 10, .inr (.inl (L k)))) := by
  rw [← sgC_L (q := q) (n1 := n1) (R := R) (B := B) h1 h2 h3]
  exact hM k (by omega)
/-- new flags and rows of point P -/
def upP (L : Nat → Nat → Int64) (P : Nat) (x y z : Nat → Int64) : Nat → Nat → Int64 := va_up (va_up (va_up L (P + 1) x) (P + 2) y) (P + 3) z
def upF (B : Nat → Nat → Int32) (P : Nat) (no pl : Int32) : Nat → Nat → Int32 := va_up B P (fun j => if j = 0 then no else pl)
def up4 (L : Nat → Nat → Int64) (a b c d : Nat → Int64) : Nat → Nat → Int64 := va_up (va_up (va_up (va_up L 18 a) 19 b) 20 c) 21 d
set_option maxHeartbeats 400000 in
theorem upP_1 {L : Nat → Nat → Int64} {P : Nat} {x y z : Nat → Int64} : upP L P x y z (P + 1) = x ∧ upP L P x y z (P + 2) = y ∧ upP L P x y z (P + 3) = z := by
  unfold upP
  exact ⟨by rw [up_n (by omega), up_n (by omega), up_e], by rw [up_n (by omega), up_e], up_e⟩
set_option maxHeartbeats 400000 in
theorem upP_n {L : Nat → Nat → Int64} {P : Nat} {x y z : Nat → Int64} {k : Nat} (h : ¬ (P < k ∧ k < P + 4)) : upP L P x y z k = L k := by
  unfold upP
  rw [up_n (by omega), up_n (by omega), up_n (by omega)]
set_option maxHeartbeats 400000 in
theorem up4_n {L : Nat → Nat → Int64} {a b c d : Nat → Int64} {k : Nat} (h : ¬ (18 ≤ k ∧ k < 22)) : up4 L a b c d k = L k := by
  unfold up4
  rw [up_n (by omega), up_n (by omega), up_n (by omega), up_n (by omega)]
set_option maxHeartbeats 400000 in
theorem r_tw {F : Type} [Lean.Grind.Field F] [DecidableEq F] {c : Int → F} (hc : cH pP c) (fu : Nat) (hfu : 1200 ≤ fu) (cy : Nat → ClassId) (q : Nat → Nat) (hq : Ij 103 q) (n1 : Nat) (R : Nat → Nat → Option Nat) (B : Nat → Nat → Int32) (L : Nat → Nat → Int64) (M : Mm) (K : Mm → Prop) {P : Nat} {A : Option (F × F)} (hP : isP P) (hM : Rg 103 q (sgC q cy n1 R L B) M) (hA : onC (c 7) A) (h : pQ c L B P A) (hK : ∀ L' B' M', Rg 103 q (sgC q cy n1 R L' B') M' → fr 103 q M M' → kQ1 P L L' B B' → pQ c L' B' P (ea A A) → K M') : ∃ (b5 : Value) (b6 : Value) (b7 : Value) (b8 : Nat) (b9 : Nat) (b10 : Nat) (b11 : Nat) (b12 : Nat) (b13 : Nat) (b14 : Nat) (c15 : Int32) (c16 : Nat → Int64) (c17 : Nat → Int64) (c18 : Nat → Int64) (c19 : Nat → Int64) (c20 : Int32) (c21 : Nat → Int64) (c22 : Nat → Int64) (c23 : Nat → Int64), mal M [((q 1), .inr (3, [b5, b6, .ref b8, .ref b9, .ref b10, .ref b11, b7])), (b8, .inl (cy 2, 10, .inr (.inl c16))), (b9, .inl (cy 2, 10, .inr (.inl c17))), (b10, .inl (cy 2, 10, .inr (.inl c18))), (b11, .inl (cy 2, 10, .inr (.inl c19))), ((q P), .inr (7, [.ref b12, .ref b13, .ref b14, .int c15, .int c20])), (b12, .inl (cy 2, 10, .inr (.inl c21))), (b13, .inl (cy 2, 10, .inr (.inl c22))), (b14, .inl (cy 2, 10, .inr (.inl c23)))] ∧ mnd (List.map (fun x : Nat × va_E => x.1) [((q 1), .inr (3, [b5, b6, .ref b8, .ref b9, .ref b10, .ref b11, b7])), (b8, .inl (cy 2, 10, .inr (.inl c16))), (b9, .inl (cy 2, 10, .inr (.inl c17))), (b10, .inl (cy 2, 10, .inr (.inl c18))), (b11, .inl (cy 2, 10, .inr (.inl c19))), ((q P), .inr (7, [.ref b12, .ref b13, .ref b14, .int c15, .int c20])), (b12, .inl (cy 2, 10, .inr (.inl c21))), (b13, .inl (cy 2, 10, .inr (.inl c22))), (b14, .inl (cy 2, 10, .inr (.inl c23)))]) ∧ ∃ (c24 : Nat → Int64) (c25 : Nat → Int64) (c26 : Nat → Int64) (c27 : Nat → Int64) (c28 : Int32) (c29 : Nat → Int64) (c30 : Nat → Int64) (c31 : Nat → Int64), x_Cu_makeTwice fu c15 c16 c17 c18 c19 c20 c21 c22 c23 = some (c24, c25, c26, c27, c28, c29, c30, c31) ∧ bnd (mov M [((q 1), .inr (3, [b5, b6, .ref b8, .ref b9, .ref b10, .ref b11, b7])), (b8, .inl (cy 2, 10, .inr (.inl c24))), (b9, .inl (cy 2, 10, .inr (.inl c25))), (b10, .inl (cy 2, 10, .inr (.inl c26))), (b11, .inl (cy 2, 10, .inr (.inl c27))), ((q P), .inr (7, [.ref b12, .ref b13, .ref b14, .int c15, .int c28])), (b12, .inl (cy 2, 10, .inr (.inl c29))), (b13, .inl (cy 2, 10, .inr (.inl c30))), (b14, .inl (cy 2, 10, .inr (.inl c31)))]) fun M32 => K M32 := by
  have h0 := hP
  obtain ⟨p1, p2, p3⟩ := h0
  obtain ⟨⟨r1, r2, r3, r4, pl, x, y, z⟩, e, hj⟩ := v_Cu_makeTwice hc fu (by omega) (B P 0) (B P 1) (L 18) (L 19) (L 20) (L 21) (L (P + 1)) (L (P + 2)) (L (P + 3)) hA h
  replace hj : jI c (B P 0) pl x y z (ea A A) := hj
  refine ⟨_, _, _, _, _, _, _, _, _, _, _, _, _, _, _, _, _, _, _, mal_c (hM 1 (by decide)) (mal_c (hM 18 (by decide)) (mal_c (hM 19 (by decide)) (mal_c (hM 20 (by decide)) (mal_c (hM 21 (by decide)) (mal_c (sg_P hM hP) (mal_c (sg_L hM (by omega) (by omega) (by omega)) (mal_c (sg_L hM (by omega) (by omega) (by omega)) (mal_c (sg_L hM (by omega) (by omega) (by omega)) (mal_n _))))))))), mnd_q hq [1, 18, 19, 20, 21, P, P + 1, P + 2, P + 3] (fun k hk => by simp at hk; omega) (by simp; omega), r1, r2, r3, r4, pl, x, y, z, e, ?_⟩
  refine m_lfw hM hq (sgC q cy n1 R (up4 (upP L P x y z) r1 r2 r3 r4) (upF B P (B P 0) pl)) [1, 18, 19, 20, 21, P, P + 1, P + 2, P + 3] ?_ (fun k hk => by simp at hk; omega) (fun k hk hn => ?_) (fun M' hM' hf' => hK _ _ M' hM' hf' ⟨fun k k1 k2 => by rw [up4_n (by omega), upP_n k2], fun k k1 => up_n k1⟩ ?_)
  · simp only [List.map_cons, List.map_nil]
    rw [sgC_P p1 p2 p3, sgC_L (k := P + 1) (by omega) (by omega) (by omega), sgC_L (k := P + 2) (by omega) (by omega) (by omega), sgC_L (k := P + 3) (by omega) (by omega) (by omega), up4_n (k := P + 1) (by omega), up4_n (k := P + 2) (by omega), up4_n (k := P + 3) (by omega), upP_1.1, upP_1.2.1, upP_1.2.2]
    unfold upF
    rw [up_e]
    rfl
  · simp at hn
    exact sgC_c (by rw [up4_n (by omega), upP_n (by omega)]) (up_n (by omega))
  · unfold pQ upF
    rw [up_e, up4_n (by omega), up4_n (by omega), up4_n (by omega), upP_1.1, upP_1.2.1, upP_1.2.2]
    exact hj
set_option maxHeartbeats 400000 in
theorem r_be {F : Type} [Lean.Grind.Field F] {c : Int → F} (fu : Nat) (hfu : 1200 ≤ fu) (cy : Nat → ClassId) (q : Nat → Nat) (hq : Ij 103 q) (n1 : Nat) (R : Nat → Nat → Option Nat) (B : Nat → Nat → Int32) (L : Nat → Nat → Int64) (M : Mm) (K : Mm → Prop) {P Q : Nat} {A : Option (F × F)} (hP : isP P) (hQ : isP Q) (hPQ : P ≠ Q) (hM : Rg 103 q (sgC q cy n1 R L B) M) (h : pQ c L B Q A) (hK : ∀ L' B' M', Rg 103 q (sgC q cy n1 R L' B') M' → fr 103 q M M' → kQ1 P L L' B B' → pQ c L' B' P A → B' P 0 = B Q 0 → K M') : ∃ (b13 : Nat) (b14 : Nat) (b15 : Nat) (b16 : Nat) (b17 : Nat) (b18 : Nat) (c19 : Int32) (c20 : Int32) (c21 : Nat → Int64) (c22 : Nat → Int64) (c23 : Nat → Int64) (c24 : Int32) (c25 : Int32) (c26 : Nat → Int64) (c27 : Nat → Int64) (c28 : Nat → Int64), mal M [((q P), .inr (7, [.ref b13, .ref b14, .ref b15, .int c24, .int c25])), (b13, .inl (cy 2, 10, .inr (.inl c26))), (b14, .inl (cy 2, 10, .inr (.inl c27))), (b15, .inl (cy 2, 10, .inr (.inl c28))), ((q Q), .inr (7, [.ref b16, .ref b17, .ref b18, .int c19, .int c20])), (b16, .inl (cy 2, 10, .inr (.inl c21))), (b17, .inl (cy 2, 10, .inr (.inl c22))), (b18, .inl (cy 2, 10, .inr (.inl c23)))] ∧ mnd (List.map (fun x : Nat × va_E => x.1) [((q P), .inr (7, [.ref b13, .ref b14, .ref b15, .int c24, .int c25])), (b13, .inl (cy 2, 10, .inr (.inl c26))), (b14, .inl (cy 2, 10, .inr (.inl c27))), (b15, .inl (cy 2, 10, .inr (.inl c28))), ((q Q), .inr (7, [.ref b16, .ref b17, .ref b18, .int c19, .int c20])), (b16, .inl (cy 2, 10, .inr (.inl c21))), (b17, .inl (cy 2, 10, .inr (.inl c22))), (b18, .inl (cy 2, 10, .inr (.inl c23)))]) ∧ ∃ (c29 : Int32) (c30 : Int32) (c31 : Nat → Int64) (c32 : Nat → Int64) (c33 : Nat → Int64), x_Po_become fu c19 c20 c21 c22 c23 c24 c25 c26 c27 c28 = some (c29, c30, c31, c32, c33) ∧ bnd (mov M [((q P), .inr (7, [.ref b13, .ref b14, .ref b15, .int c29, .int c30])), (b13, .inl (cy 2, 10, .inr (.inl c31))), (b14, .inl (cy 2, 10, .inr (.inl c32))), (b15, .inl (cy 2, 10, .inr (.inl c33))), ((q Q), .inr (7, [.ref b16, .ref b17, .ref b18, .int c19, .int c20])), (b16, .inl (cy 2, 10, .inr (.inl c21))), (b17, .inl (cy 2, 10, .inr (.inl c22))), (b18, .inl (cy 2, 10, .inr (.inl c23)))]) fun M34 => K M34 := by
  have h0 := hP
  have h0' := hQ
  obtain ⟨p1, p2, p3⟩ := h0
  obtain ⟨q1, q2, q3⟩ := h0'
  have hno : B Q 0 = 0 ∨ B Q 0 = 1 := by
    rcases h.2 with ⟨e, -⟩ | ⟨e, -⟩
    · exact Or.inl e
    · exact Or.inr e
  obtain ⟨⟨no, pl, x, y, z⟩, e, hj⟩ := v_Po_become fu (B Q 0) (B Q 1) hno h.1 (L (Q + 1)) (L (Q + 2)) (L (Q + 3)) (B P 0) (B P 1) (L (P + 1)) (L (P + 2)) (L (P + 3))
  obtain ⟨j1, j2, j3, j4, j5⟩ := hj
  replace j1 : no = B Q 0 := j1
  replace j2 : pl = B Q 1 := j2
  replace j3 : ∀ j, j < 10 → x j = L (Q + 1) j := j3
  replace j4 : ∀ j, j < 10 → y j = L (Q + 2) j := j4
  replace j5 : ∀ j, j < 10 → z j = L (Q + 3) j := j5
  refine ⟨_, _, _, _, _, _, _, _, _, _, _, _, _, _, _, _, mal_c (sg_P hM hP) (mal_c (sg_L hM (by omega) (by omega) (by omega)) (mal_c (sg_L hM (by omega) (by omega) (by omega)) (mal_c (sg_L hM (by omega) (by omega) (by omega)) (mal_c (sg_P hM hQ) (mal_c (sg_L hM (by omega) (by omega) (by omega)) (mal_c (sg_L hM (by omega) (by omega) (by omega)) (mal_c (sg_L hM (by omega) (by omega) (by omega)) (mal_n _)))))))), mnd_q hq [P, P + 1, P + 2, P + 3, Q, Q + 1, Q + 2, Q + 3] (fun k hk => by simp at hk; omega) (by simp; omega), no, pl, x, y, z, e, ?_⟩
  refine m_lfw hM hq (sgC q cy n1 R (upP L P x y z) (upF B P no pl)) [P, P + 1, P + 2, P + 3, Q, Q + 1, Q + 2, Q + 3] ?_ (fun k hk => by simp at hk; omega) (fun k hk hn => ?_) (fun M' hM' hf' => hK _ _ M' hM' hf' ⟨fun k k1 k2 => by rw [upP_n k2], fun k k1 => up_n k1⟩ ?_ ?_)
  · simp only [List.map_cons, List.map_nil]
    rw [sgC_P p1 p2 p3, sgC_P q1 q2 q3, sgC_L (k := P + 1) (by omega) (by omega) (by omega), sgC_L (k := P + 2) (by omega) (by omega) (by omega), sgC_L (k := P + 3) (by omega) (by omega) (by omega), sgC_L (k := Q + 1) (by omega) (by omega) (by omega), sgC_L (k := Q + 2) (by omega) (by omega) (by omega), sgC_L (k := Q + 3) (by omega) (by omega) (by omega), upP_1.1, upP_1.2.1, upP_1.2.2, upP_n (k := Q + 1) (by omega), upP_n (k := Q + 2) (by omega), upP_n (k := Q + 3) (by omega)]
    unfold upF
    rw [up_e, up_n (j := Q) (by omega)]
    rfl
  · simp at hn
    exact sgC_c (by rw [upP_n (by omega)]) (up_n (by omega))
  · unfold pQ upF
    rw [up_e, upP_1.1, upP_1.2.1, upP_1.2.2]
    show jI c no pl x y z A
    rw [j1, j2]
    exact jI_c j3 j4 j5 h
  · unfold upF
    rw [up_e]
    exact j1
def up5 (L : Nat → Nat → Int64) (a b c d f : Nat → Int64) : Nat → Nat → Int64 := va_up (up4 L a b c d) 22 f
set_option maxHeartbeats 400000 in
theorem up5_n {L : Nat → Nat → Int64} {a b c d f : Nat → Int64} {k : Nat} (h : ¬ (18 ≤ k ∧ k < 23)) : up5 L a b c d f k = L k := by
  unfold up5
  rw [up_n (by omega), up4_n (by omega)]
set_option maxHeartbeats 400000 in
theorem r_ad {F : Type} [Lean.Grind.Field F] [DecidableEq F] {c : Int → F} (hc : cH pP c) (fu : Nat) (hfu : 1200 ≤ fu) (cy : Nat → ClassId) (q : Nat → Nat) (hq : Ij 103 q) (n1 : Nat) (R : Nat → Nat → Option Nat) (B : Nat → Nat → Int32) (L : Nat → Nat → Int64) (M : Mm) (mn : Int32) (K : Int32 → Mm → Prop) {P Q : Nat} {A D : Option (F × F)} (hP : isP P) (hQ : isP Q) (hPQ : P ≠ Q) (hM : Rg 103 q (sgC q cy n1 R L B) M) (hA : onC (c 7) A) (hD : onC (c 7) D) (h : pQ c L B P A) (hd : pQ c L B Q D) (hd0 : B Q 0 = 0) (hK : ∀ v L' B' M', Rg 103 q (sgC q cy n1 R L' B') M' → fr 103 q M M' → kQ1 P L L' B B' → ((v = 1 ∧ pQ c L' B' P (ea A (if mn = 0 then D else en D))) ∨ (v = 0 ∧ A = (if mn = 0 then D else en D) ∧ pQ c L' B' P A)) → K v M') : ∃ (b1 : Value) (b2 : Value) (b3 : Nat) (b4 : Nat) (b5 : Nat) (b6 : Nat) (b7 : Nat) (b8 : Nat) (b9 : Nat) (b10 : Nat) (b11 : Nat) (b12 : Nat) (b13 : Nat) (c14 : Int32) (c15 : Int32) (c16 : Nat → Int64) (c17 : Nat → Int64) (c18 : Nat → Int64) (c19 : Nat → Int64) (c20 : Nat → Int64) (c21 : Nat → Int64) (c22 : Nat → Int64) (c23 : Nat → Int64) (c24 : Int32) (c25 : Int32) (c26 : Nat → Int64) (c27 : Nat → Int64) (c28 : Nat → Int64), mal M [((q 1), .inr (3, [b1, b2, .ref b3, .ref b4, .ref b5, .ref b6, .ref b7])), (b3, .inl (cy 2, 10, .inr (.inl c19))), (b4, .inl (cy 2, 10, .inr (.inl c20))), (b5, .inl (cy 2, 10, .inr (.inl c21))), (b6, .inl (cy 2, 10, .inr (.inl c22))), (b7, .inl (cy 2, 10, .inr (.inl c23))), ((q P), .inr (7, [.ref b8, .ref b9, .ref b10, .int c24, .int c25])), (b8, .inl (cy 2, 10, .inr (.inl c26))), (b9, .inl (cy 2, 10, .inr (.inl c27))), (b10, .inl (cy 2, 10, .inr (.inl c28))), ((q Q), .inr (7, [.ref b11, .ref b12, .ref b13, .int c14, .int c15])), (b11, .inl (cy 2, 10, .inr (.inl c16))), (b12, .inl (cy 2, 10, .inr (.inl c17))), (b13, .inl (cy 2, 10, .inr (.inl c18)))] ∧ mnd (List.map (fun x : Nat × va_E => x.1) [((q 1), .inr (3, [b1, b2, .ref b3, .ref b4, .ref b5, .ref b6, .ref b7])), (b3, .inl (cy 2, 10, .inr (.inl c19))), (b4, .inl (cy 2, 10, .inr (.inl c20))), (b5, .inl (cy 2, 10, .inr (.inl c21))), (b6, .inl (cy 2, 10, .inr (.inl c22))), (b7, .inl (cy 2, 10, .inr (.inl c23))), ((q P), .inr (7, [.ref b8, .ref b9, .ref b10, .int c24, .int c25])), (b8, .inl (cy 2, 10, .inr (.inl c26))), (b9, .inl (cy 2, 10, .inr (.inl c27))), (b10, .inl (cy 2, 10, .inr (.inl c28))), ((q Q), .inr (7, [.ref b11, .ref b12, .ref b13, .int c14, .int c15])), (b11, .inl (cy 2, 10, .inr (.inl c16))), (b12, .inl (cy 2, 10, .inr (.inl c17))), (b13, .inl (cy 2, 10, .inr (.inl c18)))]) ∧ ∃ (v29 : Int32) (c30 : Nat → Int64) (c31 : Nat → Int64) (c32 : Nat → Int64) (c33 : Nat → Int64) (c34 : Nat → Int64) (c35 : Int32) (c36 : Int32) (c37 : Nat → Int64) (c38 : Nat → Int64) (c39 : Nat → Int64), x_Cu_add fu c14 c15 c16 c17 c18 mn c19 c20 c21 c22 c23 c24 c25 c26 c27 c28 = some (v29, c30, c31, c32, c33, c34, c35, c36, c37, c38, c39) ∧ bnd (mov M [((q 1), .inr (3, [b1, b2, .ref b3, .ref b4, .ref b5, .ref b6, .ref b7])), (b3, .inl (cy 2, 10, .inr (.inl c30))), (b4, .inl (cy 2, 10, .inr (.inl c31))), (b5, .inl (cy 2, 10, .inr (.inl c32))), (b6, .inl (cy 2, 10, .inr (.inl c33))), (b7, .inl (cy 2, 10, .inr (.inl c34))), ((q P), .inr (7, [.ref b8, .ref b9, .ref b10, .int c35, .int c36])), (b8, .inl (cy 2, 10, .inr (.inl c37))), (b9, .inl (cy 2, 10, .inr (.inl c38))), (b10, .inl (cy 2, 10, .inr (.inl c39))), ((q Q), .inr (7, [.ref b11, .ref b12, .ref b13, .int c14, .int c15])), (b11, .inl (cy 2, 10, .inr (.inl c16))), (b12, .inl (cy 2, 10, .inr (.inl c17))), (b13, .inl (cy 2, 10, .inr (.inl c18)))]) fun M40 => K v29 M40 := by
  have h0 := hP
  have h0' := hQ
  obtain ⟨p1, p2, p3⟩ := h0
  obtain ⟨q1, q2, q3⟩ := h0'
  unfold pQ at hd
  rw [hd0] at hd
  obtain ⟨⟨v, r1, r2, r3, r4, r5, no, pl, x, y, z⟩, e, hj⟩ := v_Cu_add hc fu (by omega) (B Q 1) (L (Q + 1)) (L (Q + 2)) (L (Q + 3)) mn (L 18) (L 19) (L 20) (L 21) (L 22) (B P 0) (B P 1) (L (P + 1)) (L (P + 2)) (L (P + 3)) hA hD h hd
  replace hj : (v = 1 ∧ jI c no pl x y z (ea A (if mn = 0 then D else en D))) ∨ (v = 0 ∧ A = (if mn = 0 then D else en D) ∧ jI c no pl x y z A) := hj
  have mq := sg_P hM hQ
  rw [hd0] at mq
  refine ⟨_, _, _, _, _, _, _, _, _, _, _, _, _, _, _, _, _, _, _, _, _, _, _, _, _, _, _, _, mal_c (hM 1 (by decide)) (mal_c (hM 18 (by decide)) (mal_c (hM 19 (by decide)) (mal_c (hM 20 (by decide)) (mal_c (hM 21 (by decide)) (mal_c (hM 22 (by decide)) (mal_c (sg_P hM hP) (mal_c (sg_L hM (by omega) (by omega) (by omega)) (mal_c (sg_L hM (by omega) (by omega) (by omega)) (mal_c (sg_L hM (by omega) (by omega) (by omega)) (mal_c mq (mal_c (sg_L hM (by omega) (by omega) (by omega)) (mal_c (sg_L hM (by omega) (by omega) (by omega)) (mal_c (sg_L hM (by omega) (by omega) (by omega)) (mal_n _)))))))))))))), mnd_q hq [1, 18, 19, 20, 21, 22, P, P + 1, P + 2, P + 3, Q, Q + 1, Q + 2, Q + 3] (fun k hk => by simp at hk; omega) (by simp; omega), v, r1, r2, r3, r4, r5, no, pl, x, y, z, e, ?_⟩
  refine m_lfw hM hq (sgC q cy n1 R (up5 (upP L P x y z) r1 r2 r3 r4 r5) (upF B P no pl)) [1, 18, 19, 20, 21, 22, P, P + 1, P + 2, P + 3, Q, Q + 1, Q + 2, Q + 3] ?_ (fun k hk => by simp at hk; omega) (fun k hk hn => ?_) (fun M' hM' hf' => hK v _ _ M' hM' hf' ⟨fun k k1 k2 => by rw [up5_n (by omega), upP_n k2], fun k k1 => up_n k1⟩ ?_)
  · simp only [List.map_cons, List.map_nil]
    rw [sgC_P p1 p2 p3, sgC_P q1 q2 q3, sgC_L (k := P + 1) (by omega) (by omega) (by omega), sgC_L (k := P + 2) (by omega) (by omega) (by omega), sgC_L (k := P + 3) (by omega) (by omega) (by omega), sgC_L (k := Q + 1) (by omega) (by omega) (by omega), sgC_L (k := Q + 2) (by omega) (by omega) (by omega), sgC_L (k := Q + 3) (by omega) (by omega) (by omega), up5_n (k := P + 1) (by omega), up5_n (k := P + 2) (by omega), up5_n (k := P + 3) (by omega), up5_n (k := Q + 1) (by omega), up5_n (k := Q + 2) (by omega), up5_n (k := Q + 3) (by omega), upP_1.1, upP_1.2.1, upP_1.2.2, upP_n (k := Q + 1) (by omega), upP_n (k := Q + 2) (by omega), upP_n (k := Q + 3) (by omega)]
    unfold upF
    rw [up_e, up_n (j := Q) (by omega), hd0]
    rfl
  · simp at hn
    exact sgC_c (by rw [up5_n (by omega), upP_n (by omega)]) (up_n (by omega))
  · unfold pQ upF
    rw [up_e, up5_n (by omega), up5_n (by omega), up5_n (by omega), upP_1.1, upP_1.2.1, upP_1.2.2]
    exact hj
