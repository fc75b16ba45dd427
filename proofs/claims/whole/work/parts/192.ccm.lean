-- the class's machine: compare and arithmetic
set_option maxHeartbeats 1000000 in
theorem truB_bT (b : Bool) : truB (bT b) = b := by cases b <;> decide
def vtS : Stk → Option Stk
  | [] => none
  | x :: S => if truB x = true then some S else none
set_option maxHeartbeats 1000000 in
theorem vtS_b (b : Bool) (S : Stk) : vtS (bT b :: S) = if b = true then some S else none := by
  show (if truB (bT b) = true then some S else none) = _
  rw [truB_bT]
set_option maxHeartbeats 1000000 in
theorem v_Ma_verifyTop (fu : Nat) (hfu : 300 ≤ fu) (j2 j3 j4 j5 j6 j7 j8 j9 : Int32) {D m : Nat → Int32} (hD : ftB D) {fr : Nat} (hfr : fr ≤ 14928) {S : Stk} (hS : stH D fr m S) (hl : S.length ≤ 204) : ok (x_Ma_verifyTop fu j2 j3 j4 j5 j6 j7 j8 j9 D m (nI S.length)) (fun x => (vtS S = none ∧ x.1 = 0) ∨ ∃ S', vtS S = some S' ∧ x.1 = 1 ∧ x.2 = nI S'.length ∧ stH D fr m S' ∧ S'.length + 1 = S.length) := by
  unfold x_Ma_verifyTop
  cases S with
  | nil => exact ok_t (by decide) (ok_some (Or.inl ⟨rfl, rfl⟩))
  | cons x S =>
    replace hl : S.length + 1 ≤ 204 := hl
    refine ok_f (fun e => by have := (nI_ltI (a := S.length + 1) (b := 1) (by omega) (by omega)).mp e; omega) (ok_bn (e' := nI S.length) (nI_sb (a := S.length + 1) (b := 1) (by omega)) (ok_gd (inb_nI (by omega) (by decide)) ?_))
    rw [nI_clamp (n := S.length) (by omega)]
    refine ok_bnd (ok_bd1 (v_Ma_isTrue fu hfu (nI (S.length + 1)) j2 j3 j4 j5 j6 j7 j8 j9 hD hfr hS.1) (fun v hv => ok_tf hv (fun q => ok_some (Or.inl ⟨if_neg q, rfl⟩)) (fun q => ?_)))
    exact ok_bn (e' := nI S.length) (nI_sb (a := S.length + 1) (b := 1) (by omega)) (ok_some (Or.inr ⟨S, if_pos q, rfl, rfl, hS.2, rfl⟩))
set_option maxHeartbeats 1000000 in
theorem hO_b {D : Nat → Int32} (hs : smD D) {fr : Nat} (hfr : 2064 ≤ fr) : hO D fr (8449 : Int32) (bT true) := ⟨33, rfl, by decide, by rw [show (bT true).length = 1 from rfl, bl_s, bl_0]; exact congrArg (· :: []) (hs.2 1 (by decide) (by decide)), by rw [show (bT true).length = 1 from rfl]; omega, Or.inr (by decide)⟩
set_option maxHeartbeats 1000000 in
theorem hO_f {D : Nat → Int32} (fr : Nat) : hO D fr (0 : Int32) (bT false) := hO_0 D fr
set_option maxHeartbeats 1000000 in
/-- a truth was pushed -/
theorem maQ_b {W : Option (Stk × Stk × Nat)} {A S : Stk} {ops fr : Nat} {D m : Nat → Int32} {b : Bool} {y h : Int32} {m' : Nat → Int32} (hD : ftB D) (hs : smD D) (hfr : 2064 ≤ fr) (hS : stH D fr m S) (hl : S.length + 1 + A.length ≤ 202) (hW : W = some (bT b :: S, A, ops)) (hy : y = if b then 8449 else 0) (h1 : h = nI (S.length + 1)) (h2 : m' = upd m S.length y) : maQ W A ops fr D 1 h (nI fr) D m' := by
  subst h2
  refine maQ_1 (S' := bT b :: S) hD hW h1 (stH_p hS ?_ rfl) hl
  subst hy
  cases b with
  | true => exact hO_b hs hfr
  | false => exact hO_f fr
set_option maxHeartbeats 1000000 in
/-- a truth was pushed, and verified -/
theorem maQ_v {W : Option (Stk × Stk × Nat)} {A S : Stk} {ops fr : Nat} {D : Nat → Int32} {b : Bool} {v h : Int32} {m' : Nat → Int32} (hD : ftB D) (hl : S.length + A.length ≤ 202) (hW : W = if b = true then some (S, A, ops) else none) (h1 : (vtS (bT b :: S) = none ∧ v = 0) ∨ ∃ S', vtS (bT b :: S) = some S' ∧ v = 1 ∧ h = nI S'.length ∧ stH D fr m' S' ∧ S'.length + 1 = (bT b :: S).length) : maQ W A ops fr D v h (nI fr) D m' := by
  rw [vtS_b] at h1
  cases b with
  | true =>
    rcases h1 with ⟨e, -⟩ | ⟨S', e, e1, e2, e3, -⟩
    · exact absurd e (by simp)
    · have e : S = S' := Option.some.inj e
      subst e
      subst e1
      exact maQ_1 hD hW e2 e3 hl
  | false =>
    rcases h1 with ⟨-, e⟩ | ⟨S', e, -⟩
    · subst e
      exact maQ_0 hD hW
    · exact absurd e (by simp)
abbrev T3m : Type := Int32 × Int32 × (Nat → Int32)
def maQ3 (W : Option (Stk × Stk × Nat)) (A : Stk) (ops fr : Nat) (D0 : Nat → Int32) (x : T3m) : Prop := maQ W A ops fr D0 x.1 x.2.1 (nI fr) D0 x.2.2
set_option maxHeartbeats 1000000 in
theorem maQ_isb {W : Option (Stk × Stk × Nat)} {A : Stk} {ops fr : Nat} {D0 : Nat → Int32} {b h f : Int32} {D' m' : Nat → Int32} (w : maQ W A ops fr D0 b h f D' m') : isb b = true := by
  rcases w.2.2 with ⟨-, e⟩ | ⟨-, -, -, e, -⟩ <;> subst e <;> decide
set_option maxHeartbeats 1000000 in
theorem v_Ma_pushS (fu : Nat) (j2 j3 j4 j5 j6 j7 j8 j9 : Int32) (sg : List Int32 → List Int32 → Bool) {D m : Nat → Int32} {fr : Nat} {S A : Stk} (ops : Nat) (hS : stH D fr m S) (hD : ftB D) (hs : smD D) (hl : S.length + A.length ≤ 200) (hfr : 2064 ≤ fr) {k : Nat} (hk : 76 < k ∧ k ≤ 96) : ok (x_Ma_pushSmall fu j2 j3 j4 j5 j6 j7 j8 j9 (nI k) (nI S.length) m) (maQ3 (opS sg hsF k S A ops) A ops fr D) := by
  have P : ∀ (y0 : Nat) (x : Int32), y0 ≤ 16 → D (32 + y0) = x → opS sg hsF k S A ops = some ([x] :: S, A, ops) → ok (xb_Ma_pushSmall_31 fu j2 j3 j4 j5 j6 j7 j8 j9 (nI y0) (32 : Int32) (nI S.length) m) (maQ3 (opS sg hsF k S A ops) A ops fr D) := fun y0 x h1 h2 hW => by
    unfold xb_Ma_pushSmall_31
    refine ok_bn (nI_add 32 y0) (ok_bnd (ok_bn (h_or (p := 32 + y0) (l := 1) (by omega) (by decide)) (ok_bd2 (v_Ma_push fu j2 j3 j4 j5 j6 j7 j8 j9 _ m (show S.length < 204 by omega)) (fun e1 f2 w => ok_some ?_))))
    obtain ⟨w1, w2⟩ := w
    replace w2 : f2 = upd m S.length (nI (256 * (32 + y0) + 1)) := w2
    subst w2
    refine maQ_1 (S' := [x] :: S) hD hW w1 (stH_p (x := [x]) hS ⟨32 + y0, rfl, show 1 ≤ 255 by decide, ?_, by rw [show [x].length = 1 from rfl]; omega, Or.inr (by omega)⟩ rfl) (by show S.length + 1 + A.length ≤ 202; omega)
    rw [show [x].length = 1 from rfl, bl_s, bl_0, h2]
  unfold x_Ma_pushSmall
  by_cases c : k = 79
  · subst c
    refine ok_t rfl ?_
    unfold xb_Ma_pushSmall_14
    exact ok_t rfl (P 0 (-127) (by decide) hs.1 rfl)
  · refine ok_f (fun e => c ((nI_eq (b := 79) (by omega) (by omega)).mp e)) ?_
    by_cases d : 81 ≤ k
    · refine ok_t ((nI_leI (a := 81) (by omega) (by omega)).mpr d) ?_
      unfold xb_Ma_pushSmall_14
      refine ok_f (fun e => c ((nI_eq (b := 79) (by omega) (by omega)).mp e)) ?_
      rw [show nI k - (80 : Int32) = nI (k - 80) from nI_sb (b := 80) (by omega)]
      refine P (k - 80) (nI (k - 80)) (by omega) (hs.2 _ (by omega) (by omega)) ?_
      obtain ⟨i, hi, rfl⟩ : ∃ i, i < 16 ∧ k = 81 + i := ⟨k - 81, by omega, by omega⟩
      unfold opS
      rw [if_pos (Or.inr ⟨by omega, by omega⟩)]
      have : ∀ i, i < 16 → nb (((81 + i : Nat) : Int) - 80) = [nI (81 + i - 80)] := by decide +kernel
      rw [this i hi]
    · refine ok_f (fun e => d ((nI_leI (a := 81) (by omega) (by omega)).mp e)) (ok_some (maQ_0 hD ?_))
      have cs : k = 77 ∨ k = 78 ∨ k = 80 := by omega
      rcases cs with rfl | rfl | rfl <;> rfl
set_option maxHeartbeats 1000000 in
theorem v_Ma_pushSmall (fu : Nat) (j2 j3 j4 j5 j6 j7 j8 j9 : Int32) (sg : List Int32 → List Int32 → Bool) {D m o : Nat → Int32} {fr : Nat} {S A : Stk} (ops : Nat) (h : kM D fr m o S A) {k : Nat} (hk : 76 < k ∧ k ≤ 96) : ok (x_Ma_pushSmall fu j2 j3 j4 j5 j6 j7 j8 j9 (nI k) (nI S.length) m) (maQ3 (opS sg hsF k S A ops) A ops fr D) := v_Ma_pushS fu j2 j3 j4 j5 j6 j7 j8 j9 sg ops h.1 h.2.2.1 h.2.2.2.1 h.2.2.2.2.1 h.2.2.2.2.2.1 hk
set_option maxHeartbeats 1000000 in
theorem v_Ma_compareTop (fu : Nat) (hfu : 1600 ≤ fu) (j2 j3 j4 j5 j7 j8 j9 : Int32) (sg : List Int32 → List Int32 → Bool) {D m o : Nat → Int32} {fr : Nat} {S A : Stk} (ops : Nat) (h : kM D fr m o S A) {k : Nat} (hk : k = 135 ∨ k = 136) : ok (x_Ma_compareTop fu j2 j3 j4 j5 (nI fr) j7 j8 j9 D (nI k) (nI S.length) m) (maQ3 (opS sg hsF k S A ops) A ops fr D) := by
  have hD := h.2.2.1
  have hs := h.2.2.2.1
  have hl := h.2.2.2.2.1
  have hfr := h.2.2.2.2.2
  unfold x_Ma_compareTop
  match S, h, hl with
  | [], h, hl => exact ok_f (by decide) (ok_some (maQ_0 hD (by rcases hk with rfl | rfl <;> rfl)))
  | [x], h, hl => exact ok_f (show ¬ (2 : Int32) ≤ nI 1 by decide) (ok_some (maQ_0 hD (by rcases hk with rfl | rfl <;> rfl)))
  | y :: x :: S, h, hl =>
    replace hl : S.length + 1 + 1 + A.length ≤ 200 := hl
    have P : ∀ (b : Bool) (y0 : Int32), (y0 = if b then 8449 else 0) → decide (y = x) = b → ok (xb_Ma_compareTop_89 fu j2 j3 j4 j5 (nI fr) j7 j8 j9 D (nI k) y0 (nI S.length) m) (maQ3 (opS sg hsF k (y :: x :: S) A ops) A ops fr D) := fun b y0 hy hb => by
      unfold xb_Ma_compareTop_89 xb_Ma_compareTop_106
      refine ok_bd2 (v_Ma_push fu j2 j3 j4 j5 (nI fr) j7 j8 j9 y0 m (show S.length < 204 by omega)) (fun e1 f2 w => ?_)
      obtain ⟨w1, w2⟩ := w
      replace w1 : e1 = nI (S.length + 1) := w1
      replace w2 : f2 = upd m S.length y0 := w2
      have hB : stH D fr f2 (bT b :: S) := by
        rw [w2]
        refine stH_p h.1.2.2 ?_ rfl
        subst hy
        cases b with
        | true => exact hO_b hs hfr.1
        | false => exact hO_f fr
      rcases hk with rfl | rfl
      · refine ok_t rfl (ok_some (maQ_b hD hs hfr.1 h.1.2.2 (by omega) ?_ hy w1 w2))
        show some (bT (decide (y = x)) :: S, A, ops) = _
        rw [hb]
      · have V := v_Ma_verifyTop fu (by omega) j2 j3 j4 j5 (nI fr) j7 j8 j9 hD (by omega) hB (by show S.length + 1 ≤ 204; omega)
        rw [show (bT b :: S).length = S.length + 1 from rfl, ← w1] at V
        refine ok_f (by decide) (ok_bd2 V (fun v3 e4 w => ?_))
        have W : opS sg hsF 136 (y :: x :: S) A ops = if b = true then some (S, A, ops) else none := by
          show (if y = x then some (S, A, ops) else none) = _
          rw [← hb]
          by_cases q : y = x
          · rw [if_pos q, if_pos (decide_eq_true q)]
          · rw [if_neg q, if_neg (fun z => q (of_decide_eq_true z))]
        rcases w with ⟨w3, w4⟩ | ⟨S', w3, w4, w5, w6, w7⟩
        · exact ok_t w4 (ok_some (maQ_v (v := 0) hD (by omega) W (Or.inl ⟨w3, rfl⟩)))
        · exact ok_f (by replace w4 : v3 = 1 := w4; rw [w4]; decide) (ok_some (maQ_v (v := 1) hD (by omega) W (Or.inr ⟨S', w3, rfl, w5, w6, w7⟩)))
    obtain ⟨p, a1, a2, a3, a4, a5⟩ := h.1.1
    obtain ⟨q, b1, b2, b3, b4, b5⟩ := h.1.2.1
    replace a1 : m (S.length + 1) = nI (256 * p + y.length) := a1
    refine ok_t ((nI_leI (a := 2) (b := S.length + 2) (by omega) (by omega)).mpr (by omega)) (ok_bn (e' := nI S.length) (nI_sb (a := S.length + 2) (b := 2) (by omega)) (ok_gd (inb_nI (by omega) (by decide)) ?_))
    rw [nI_clamp (n := S.length) (by omega), b1]
    refine ok_bnd (ok_bn (e' := nI (S.length + 1)) (nI_sb (a := S.length + 2) (b := 1) (by omega)) (ok_gd (inb_nI (by omega) (by decide)) ?_))
    rw [nI_clamp (n := S.length + 1) (by omega), a1]
    refine ok_bnd (ok_bn (e' := nI S.length) (nI_sb (a := S.length + 2) (b := 2) (by omega)) (ok_bd1 (v_length fu (by omega) b2) (fun v6 e6 => ok_bd1 (v_length fu (by omega) a2) (fun v7 e7 => ?_))))
    subst e6 e7
    unfold xb_Ma_compareTop_88
    by_cases c : x.length = y.length
    · refine ok_t (by rw [c]) (ok_bd1 (v_place fu (by omega) b2) (fun v8 e8 => ok_bd1 (v_place fu (by omega) a2) (fun v9 e9 => ok_bd1 (v_length fu (by omega) b2) (fun v10 e10 => ?_))))
      subst e8 e9 e10
      refine ok_bd1 (v_K_same_e fu 14928 D (by omega) (by omega) (by decide) (by omega)) (fun v11 hv => ?_)
      rw [b3] at hv
      rw [c, a3] at hv
      refine ok_tf hv (fun z => P false 0 rfl (decide_eq_false fun e => z e.symm)) (fun z => P true 8449 rfl (decide_eq_true z.symm))
    · exact ok_f (fun e => c ((nI_eq (by omega) (by omega)).mp e)) (P false 0 rfl (decide_eq_false fun e => c (by rw [e])))
set_option maxHeartbeats 1000000 in
theorem opS_ar (sg : List Int32 → List Int32 → Bool) {o : Nat} (ho : 139 ≤ o ∧ o ≤ 165) (S A : Stk) (ops : Nat) : opS sg hsF o S A ops = arS o S A ops := by
  obtain ⟨k, hk, rfl⟩ : ∃ k, k < 27 ∧ o = 139 + k := ⟨o - 139, by omega, by omega⟩
  have : ∀ k, k < 27 → ∀ (S A : Stk) (ops : Nat), opS sg hsF (139 + k) S A ops = arS (139 + k) S A ops := fun k hk => by
    match k, hk with
    | 0, _ => exact fun _ _ _ => rfl
    | 1, _ => exact fun _ _ _ => rfl
    | 2, _ => exact fun _ _ _ => rfl
    | 3, _ => exact fun _ _ _ => rfl
    | 4, _ => exact fun _ _ _ => rfl
    | 5, _ => exact fun _ _ _ => rfl
    | 6, _ => exact fun _ _ _ => rfl
    | 7, _ => exact fun _ _ _ => rfl
    | 8, _ => exact fun _ _ _ => rfl
    | 9, _ => exact fun _ _ _ => rfl
    | 10, _ => exact fun _ _ _ => rfl
    | 11, _ => exact fun _ _ _ => rfl
    | 12, _ => exact fun _ _ _ => rfl
    | 13, _ => exact fun _ _ _ => rfl
    | 14, _ => exact fun _ _ _ => rfl
    | 15, _ => exact fun _ _ _ => rfl
    | 16, _ => exact fun _ _ _ => rfl
    | 17, _ => exact fun _ _ _ => rfl
    | 18, _ => exact fun _ _ _ => rfl
    | 19, _ => exact fun _ _ _ => rfl
    | 20, _ => exact fun _ _ _ => rfl
    | 21, _ => exact fun _ _ _ => rfl
    | 22, _ => exact fun _ _ _ => rfl
    | 23, _ => exact fun _ _ _ => rfl
    | 24, _ => exact fun _ _ _ => rfl
    | 25, _ => exact fun _ _ _ => rfl
    | 26, _ => exact fun _ _ _ => rfl
    | k + 27, hk => exact absurd hk (by omega)
  exact this k hk S A ops
set_option maxHeartbeats 1000000 in
theorem v_Ma_changeNumber (fu : Nat) (hfu : 1600 ≤ fu) (j2 j3 j4 j5 j7 j8 j9 : Int32) (sg : List Int32 → List Int32 → Bool) {D m o : Nat → Int32} {fr : Nat} {S A : Stk} (ops : Nat) (h : kM D fr m o S A) {k : Nat} (hk : 130 < k ∧ k ≤ 146 ∧ k ≠ 135 ∧ k ≠ 136) : ok (x_Ma_changeNumber fu j2 j3 j4 j5 j7 j8 j9 (nI k) (nI S.length) (nI fr) D m) (maQ5 (opS sg hsF k S A ops) A ops fr D) := by
  have hD := h.2.2.1
  have hs := h.2.2.2.1
  have hl := h.2.2.2.2.1
  have hfr := h.2.2.2.2.2
  unfold x_Ma_changeNumber
  have lo : k < 139 → opS sg hsF k S A ops = none := fun q => by
    have cs : k = 131 ∨ k = 132 ∨ k = 133 ∨ k = 134 ∨ k = 137 ∨ k = 138 := by omega
    rcases cs with rfl | rfl | rfl | rfl | rfl | rfl <;> rfl
  have hi : 139 ≤ k → opS sg hsF k S A ops = arS k S A ops := fun q => opS_ar sg ⟨q, by omega⟩ S A ops
  cases S with
  | nil =>
    refine ok_t (by decide) (ok_some (maQ_0 hD ?_))
    by_cases q : k < 139
    · exact lo q
    · rw [hi (by omega)]
      unfold arS
      rw [if_pos hk.2.1]
  | cons x S =>
    replace hl : S.length + 1 + A.length ≤ 200 := hl
    have ea : arS k (x :: S) A ops = if isNu x = true then (ar1 k (numL x)).map fun w => (w :: S, A, ops) else none := by
      unfold arS
      rw [if_pos hk.2.1]
    refine ok_f (fun e => by have := (nI_ltI (a := S.length + 1) (b := 1) (by omega) (by omega)).mp e; omega) (ok_bn (e' := nI S.length) (nI_sb (a := S.length + 1) (b := 1) (by omega)) (ok_gd (inb_nI (by omega) (by decide)) ?_))
    rw [nI_clamp (n := S.length) (by omega)]
    refine ok_bnd (ok_bd1 (v_Ma_isNumber fu (nI (S.length + 1)) j2 j3 j4 j5 (nI fr) j7 j8 j9 (by omega) h.1.1) (fun v hv => ok_tf hv (fun q => ok_some (maQ_0 hD ?_)) (fun qn => ?_)))
    · by_cases q2 : k < 139
      · exact lo q2
      · rw [hi (by omega), ea, if_neg q]
    refine ok_bn (e' := nI S.length) (nI_sb (a := S.length + 1) (b := 1) (by omega)) (ok_gd (inb_nI (by omega) (by decide)) ?_)
    rw [nI_clamp (n := S.length) (by omega)]
    have hb := numL_b (L := x) (of_decide_eq_true qn)
    refine ok_bnd (ok_bd1 (v_Ma_numberOf fu (by omega) (nI S.length) j2 j3 j4 j5 (nI fr) j7 j8 j9 (by omega) h.1.1 qn) (fun v6 h3 => ?_))
    rw [if_pos qn] at ea
    generalize hn : numL x = a at *
    have PE : ∀ (y : Int64) (v : Int), y.toInt = v → v.natAbs < 2 ^ 40 → opS sg hsF k (x :: S) A ops = some (nb v :: S, A, ops) → ok (bd4 (x_Ma_pushNumber fu j2 j3 j4 j5 j7 j8 j9 y (nI S.length) (nI fr) D m) fun e8 e9 f10 f11 => some ((1 : Int32), e8, e9, f10, f11)) (maQ5 (opS sg hsF k (x :: S) A ops) A ops fr D) := fun y v hy hv hW => by
      refine ok_bd4 (v_Ma_pushNumber fu (by omega) j2 j3 j4 j5 j7 j8 j9 hy hv D m (n := S.length) (by omega) (by omega)) (fun a b c d w => ok_some ?_)
      exact maQ_n hD hfr.1 h.1.2 (by omega) hW w
    have PT : ∀ (b : Bool) (y0 : Int32), (y0 = if b then 8449 else 0) → opS sg hsF k (x :: S) A ops = some (bT b :: S, A, ops) → ok (bd2 (x_Ma_push fu j2 j3 j4 j5 (nI fr) j7 j8 j9 y0 (nI S.length) m) fun e1 f2 => some ((1 : Int32), e1, nI fr, D, f2)) (maQ5 (opS sg hsF k (x :: S) A ops) A ops fr D) := fun b y0 hy hW => by
      refine ok_bd2 (v_Ma_push fu j2 j3 j4 j5 (nI fr) j7 j8 j9 y0 m (show S.length < 204 by omega)) (fun e1 f2 w => ok_some ?_)
      exact maQ_b hD hs hfr.1 h.1.2 (by omega) hW hy w.1 w.2
    have hk256 : k < 256 := by omega
    refine ok_op (k := 139) hk256 (by decide) rfl (fun e => ok_bnd (PE _ (a + 1) (add_I h3 (by decide) (by omega)) (by omega) ?_)) (fun n1 => ?_)
    · rw [hi (by omega), ea]; subst e; rfl
    refine ok_op (k := 140) hk256 (by decide) rfl (fun e => ok_bnd (PE _ (a - 1) (sub_I h3 (by decide) (by omega)) (by omega) ?_)) (fun n2 => ?_)
    · rw [hi (by omega), ea]; subst e; rfl
    refine ok_op (k := 141) hk256 (by decide) rfl (fun e => ok_some (maQ_0 hD ?_)) (fun n3 => ?_)
    · rw [hi (by omega), ea]; subst e; rfl
    refine ok_op (k := 142) hk256 (by decide) rfl (fun e => ok_some (maQ_0 hD ?_)) (fun n4 => ?_)
    · rw [hi (by omega), ea]; subst e; rfl
    refine ok_op (k := 143) hk256 (by decide) rfl (fun e => ok_bnd (PE _ (-a) (neg_I h3 (by omega)) (by omega) ?_)) (fun n5 => ?_)
    · rw [hi (by omega), ea]; subst e; rfl
    refine ok_op (k := 144) hk256 (by decide) rfl (fun e => ok_bnd (PE _ (if a < 0 then -a else a) ?_ ?_ ?_)) (fun n6 => ?_)
    · by_cases q : (0 : Int64) < v6
      · rw [if_pos q]
        have := Int64.lt_iff_toInt_lt.mp q
        rw [z64] at this
        rw [if_neg (by omega)]
        exact h3
      · rw [if_neg q]
        have t : ¬ (0 : Int64).toInt < v6.toInt := fun z => q (Int64.lt_iff_toInt_lt.mpr z)
        rw [z64, h3] at t
        rw [neg_I h3 (by omega)]
        split <;> omega
    · split <;> omega
    · rw [hi (by omega), ea]; subst e; rfl
    unfold xb_Ma_changeNumber_150 xb_Ma_changeNumber_169
    refine ok_op (k := 145) hk256 (by decide) rfl (fun e => ?_) (fun n7 => ?_)
    · have W : opS sg hsF k (x :: S) A ops = some (bT (decide (a = 0)) :: S, A, ops) := by
        rw [hi (by omega), ea]; subst e; rfl
      by_cases q : a = 0
      · exact ok_t ((lg_eq h3 z64).mpr q) (PT true _ rfl (by rw [W, decide_eq_true q]))
      · exact ok_f (fun z => q ((lg_eq h3 z64).mp z)) (PT false _ rfl (by rw [W, decide_eq_false q]))
    refine ok_op (k := 146) hk256 (by decide) rfl (fun e => ?_) (fun n8 => ?_)
    · have W : opS sg hsF k (x :: S) A ops = some (bT (decide (a ≠ 0)) :: S, A, ops) := by
        rw [hi (by omega), ea]; subst e; rfl
      by_cases q : a = 0
      · exact ok_t ((lg_eq h3 z64).mpr q) (PT false _ rfl (by rw [W, decide_eq_false (fun z => z q)]))
      · exact ok_f (fun z => q ((lg_eq h3 z64).mp z)) (PT true _ rfl (by rw [W, decide_eq_true q]))
    exact ok_some (maQ_0 hD (lo (by omega)))
set_option maxHeartbeats 1000000 in
theorem v_Ma_holds (fu : Nat) {k : Nat} (hk : 154 ≤ k ∧ k ≤ 162) {x y : Int64} {a b : Int} (hx : x.toInt = a) (hy : y.toInt = b) : ∃ B : Bool, ok (x_Ma_holds fu (nI k) x y) (tf (B = true)) ∧ (k ≠ 157 → ar2 k a b = some [bT B]) ∧ (k = 157 → B = decide (a = b)) := by
  have i1 := lg_eq hx z64
  have i2 := lg_eq hy z64
  have i3 := lg_eq hx hy
  unfold x_Ma_holds xb_Ma_holds_82 xb_Ma_holds_148
  have cs : k = 154 ∨ k = 155 ∨ k = 156 ∨ k = 157 ∨ k = 158 ∨ k = 159 ∨ k = 160 ∨ k = 161 ∨ k = 162 := by omega
  rcases cs with rfl | rfl | rfl | rfl | rfl | rfl | rfl | rfl | rfl
  · refine ⟨_, ?_, fun _ => rfl, fun e => absurd e (by decide)⟩
    refine ok_t rfl (ok_ite (fun q => ok_some (tf_0 fun z => (of_decide_eq_true z).1 (i1.mp q))) (fun q => ok_ite (fun q2 => ok_some (tf_0 fun z => (of_decide_eq_true z).2 (i2.mp q2))) (fun q2 => ok_some (tf_1 (decide_eq_true ⟨fun z => q (i1.mpr z), fun z => q2 (i2.mpr z)⟩)))))
  · refine ⟨_, ?_, fun _ => rfl, fun e => absurd e (by decide)⟩
    refine ok_f (by decide) (ok_t rfl (ok_ite (fun q => ok_ite (fun q2 => ok_some (tf_0 fun z => (of_decide_eq_true z).elim (fun w => w (i1.mp q)) (fun w => w (i2.mp q2)))) (fun q2 => ok_some (tf_1 (decide_eq_true (Or.inr fun z => q2 (i2.mpr z)))))) (fun q => ok_some (tf_1 (decide_eq_true (Or.inl fun z => q (i1.mpr z)))))))
  · refine ⟨_, ?_, fun _ => rfl, fun e => absurd e (by decide)⟩
    iterate 2 refine ok_f (by decide) ?_
    refine ok_t rfl (ok_ite (fun q => ok_some (tf_1 (decide_eq_true (i3.mp q)))) (fun q => ok_some (tf_0 fun z => q (i3.mpr (of_decide_eq_true z)))))
  · refine ⟨_, ?_, fun e => absurd rfl e, fun _ => rfl⟩
    iterate 3 refine ok_f (by decide) ?_
    refine ok_t rfl (ok_ite (fun q => ok_some (tf_1 (decide_eq_true (i3.mp q)))) (fun q => ok_some (tf_0 fun z => q (i3.mpr (of_decide_eq_true z)))))
  · refine ⟨_, ?_, fun _ => rfl, fun e => absurd e (by decide)⟩
    iterate 4 refine ok_f (by decide) ?_
    refine ok_t rfl (ok_ite (fun q => ok_some (tf_0 fun z => of_decide_eq_true z (i3.mp q))) (fun q => ok_some (tf_1 (decide_eq_true fun z => q (i3.mpr z)))))
  · refine ⟨_, ?_, fun _ => rfl, fun e => absurd e (by decide)⟩
    iterate 5 refine ok_f (by decide) ?_
    refine ok_t rfl (ok_ite (fun q => ok_some (tf_0 fun z => by have := (lg_ge hx hy).mp q; have := of_decide_eq_true z; omega)) (fun q => ok_some (tf_1 (decide_eq_true (by have : ¬ b ≤ a := fun z => q ((lg_ge hx hy).mpr z); omega)))))
  · refine ⟨_, ?_, fun _ => rfl, fun e => absurd e (by decide)⟩
    iterate 6 refine ok_f (by decide) ?_
    refine ok_t rfl (ok_ite (fun q => ok_some (tf_0 fun z => by have := (lg_le' hx hy).mp q; have := of_decide_eq_true z; omega)) (fun q => ok_some (tf_1 (decide_eq_true (by have : ¬ a ≤ b := fun z => q ((lg_le' hx hy).mpr z); omega)))))
  · refine ⟨_, ?_, fun _ => rfl, fun e => absurd e (by decide)⟩
    iterate 7 refine ok_f (by decide) ?_
    refine ok_t rfl (ok_ite (fun q => ok_some (tf_0 fun z => by have := (lg_gt' hx hy).mp q; have := of_decide_eq_true z; omega)) (fun q => ok_some (tf_1 (decide_eq_true (by have : ¬ b < a := fun z => q ((lg_gt' hx hy).mpr z); omega)))))
  · refine ⟨_, ?_, fun _ => rfl, fun e => absurd e (by decide)⟩
    iterate 8 refine ok_f (by decide) ?_
    refine ok_t rfl (ok_ite (fun q => ok_some (tf_0 fun z => by have := (lg_lt' hx hy).mp q; have := of_decide_eq_true z; omega)) (fun q => ok_some (tf_1 (decide_eq_true (by have : ¬ a < b := fun z => q ((lg_lt' hx hy).mpr z); omega)))))
