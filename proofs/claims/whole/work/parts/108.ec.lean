set_option maxHeartbeats 400000 in
theorem nc {F : Type} [Lean.Grind.Field F] {b x1 y1 x2 y2 x3 y3 l x4 y4 : F} (h1 : y1 * y1 = x1 * x1 * x1 + b) (h2 : y2 * y2 = x2 * x2 * x2 + b) (h3 : y3 * y3 = x3 * x3 * x3 + b) (n12 : x1 ≠ x2) (n13 : x1 ≠ x3) (n23 : x2 ≠ x3) (h : sR x1 y1 x2 y2 l x4 y4) (hn : ¬ (x4 = x3 ∧ y4 = -y3)) : (x2 - x1) * (y3 - y1) - (x3 - x1) * (y2 - y1) ≠ 0 := by
  intro e
  obtain ⟨e1, e2, e3, e4⟩ := h
  have g1 : (x2 - x1) * (y3 - y1 - l * (x3 - x1)) = 0 := by grind
  have g2 : y3 = y1 + l * (x3 - x1) := by grind
  have g3 : (x3 - x1) * ((x3 - x2) * (x3 - x4)) = 0 := by
    have g4 : (x2 - x1) * ((x3 - x1) * ((x3 - x2) * (x3 - x4))) = 0 := by grind
    grind
  have g5 : x3 = x4 := by grind
  apply hn
  refine ⟨g5.symm, ?_⟩
  grind
set_option maxHeartbeats 400000 in
theorem lin3 {F : Type} [Lean.Grind.Field F] {p q r x1 y1 x2 y2 x3 y3 : F} (h1 : p * y1 + q * x1 + r = 0) (h2 : p * y2 + q * x2 + r = 0) (h3 : p * y3 + q * x3 + r = 0) (hd : (x2 - x1) * (y3 - y1) - (x3 - x1) * (y2 - y1) ≠ 0) : p = 0 ∧ q = 0 ∧ r = 0 := by
  have g1 : p * ((x2 - x1) * (y3 - y1) - (x3 - x1) * (y2 - y1)) = 0 := by grind
  have g2 : q * ((x2 - x1) * (y3 - y1) - (x3 - x1) * (y2 - y1)) = 0 := by grind
  have hp : p = 0 := by grind
  have hq : q = 0 := by grind
  refine ⟨hp, hq, ?_⟩
  grind
set_option maxHeartbeats 400000 in
theorem as_g {F : Type} [Lean.Grind.Field F] {b x1 y1 x2 y2 x3 y3 l x4 y4 m x5 y5 n x6 y6 r x7 y7 : F} (h1 : y1 * y1 = x1 * x1 * x1 + b) (h2 : y2 * y2 = x2 * x2 * x2 + b) (h3 : y3 * y3 = x3 * x3 * x3 + b) (n12 : x1 ≠ x2) (n13 : x1 ≠ x3) (n23 : x2 ≠ x3)
    (s1 : sR x1 y1 x2 y2 l x4 y4) (s2 : sR x4 y4 x3 y3 m x5 y5) (hn : ¬ (x4 = x3 ∧ y4 = -y3)) (s3 : sR x2 y2 x3 y3 n x6 y6) (s4 : sR x1 y1 x6 y6 r x7 y7) : x5 = x7 ∧ y5 = y7 := by
  have hd := nc h1 h2 h3 n12 n13 n23 s1 hn
  have h4 := sR_on h1 s1
  have h6 := sR_on h2 s3
  have a1 := f_A (m := m) h1 h2 n12 s1
  have a2 := f_A (m := m) h2 h1 n12.symm (sR_c s1)
  have a3 := f_T (l := l) h3 h4 s2.1 s2.2.1
  obtain ⟨a5, a6⟩ := f_D h1 s1 s2
  have s4' := sR_c s4
  have b2 := f_A (m := r) h2 h3 n23 s3
  have b3 := f_A (m := r) h3 h2 n23.symm (sR_c s3)
  have b1 := f_T (l := n) h1 h6 s4'.1 s4'.2.1
  obtain ⟨b5, b6⟩ := f_D h2 s3 s4'
  generalize l * (y4 - m * x4) + m * (-y4 - l * x4) + x4 * x4 + l * m * x4 = G at *
  generalize n * (y6 - r * x6) + r * (-y6 - n * x6) + x6 * x6 + n * r * x6 = G' at *
  generalize hB : x4 + l * m = B at *
  generalize hB' : x6 + n * r = B' at *
  generalize hA : l + m = A at *
  generalize hA' : n + r = A' at *
  clear s1 s2 s3 s4 s4' h4 h6 hn hB hB' hA hA'
  unfold fv at *
  obtain ⟨e1, e2, e3⟩ := lin3 (p := -A + A') (q := B - B') (r := G - G') (x1 := x1) (y1 := y1) (x2 := x2) (y2 := y2) (x3 := x3) (y3 := y3) (by grind) (by grind) (by grind) hd
  have hA : A = A' := by grind
  have hB : B = B' := by grind
  have hG : G = G' := by grind
  subst hA hB hG
  have hx : x5 = x7 := by grind
  subst hx
  refine ⟨rfl, ?_⟩
  have hA0 : A ≠ 0 := by
    intro e
    subst e
    have c1 : (x1 - x2) * (x1 + x2 + B) = 0 := by grind
    have c2 : (x1 - x3) * (x1 + x3 + B) = 0 := by grind
    have c3 : x1 + x2 + B = 0 := by grind
    have c4 : x1 + x3 + B = 0 := by grind
    grind
  have : A * (y5 - y7) = 0 := by grind
  grind
-- points: none is the one at infinity
def onC {F : Type} [Lean.Grind.Field F] (b : F) : Option (F × F) → Prop
  | none => True
  | some p => p.2 * p.2 = p.1 * p.1 * p.1 + b
def en {F : Type} [Lean.Grind.Field F] : Option (F × F) → Option (F × F)
  | none => none
  | some p => some (p.1, -p.2)
def slo {F : Type} [Lean.Grind.Field F] [DecidableEq F] (x1 y1 x2 y2 : F) : F := if x1 = x2 then (x1 * x1 + x1 * x1 + x1 * x1) / (y1 + y1) else (y2 - y1) / (x2 - x1)
def ea {F : Type} [Lean.Grind.Field F] [DecidableEq F] : Option (F × F) → Option (F × F) → Option (F × F)
  | none, q => q
  | some p, none => some p
  | some p, some q => if p.1 = q.1 ∧ p.2 = -q.2 then none else some (slo p.1 p.2 q.1 q.2 * slo p.1 p.2 q.1 q.2 - p.1 - q.1, slo p.1 p.2 q.1 q.2 * (p.1 - (slo p.1 p.2 q.1 q.2 * slo p.1 p.2 q.1 q.2 - p.1 - q.1)) - p.2)
theorem dvc {F : Type} [Lean.Grind.Field F] {n d : F} (h : d ≠ 0) : n / d * d = n := by grind
set_option maxHeartbeats 400000 in
theorem ea_R {F : Type} [Lean.Grind.Field F] [DecidableEq F] (h2 : (2 : F) ≠ 0) {b x1 y1 x2 y2 : F} (h1 : y1 * y1 = x1 * x1 * x1 + b) (h1' : y2 * y2 = x2 * x2 * x2 + b) (hn : ¬ (x1 = x2 ∧ y1 = -y2)) : ∃ l x3 y3, ea (some (x1, y1)) (some (x2, y2)) = some (x3, y3) ∧ sR x1 y1 x2 y2 l x3 y3 := by
  refine ⟨slo x1 y1 x2 y2, _, _, if_neg hn, ?_⟩
  refine ⟨?_, ?_, rfl, rfl⟩
  · unfold slo
    by_cases g : x1 = x2
    · rw [if_pos g]
      rcases sR_d h2 h1 h1' hn with q | ⟨-, q2, q3⟩
      · grind
      · grind
    · rw [if_neg g]
      exact dvc (fun e => g (by grind))
  · unfold slo
    by_cases g : x1 = x2
    · rw [if_pos g]
      rcases sR_d h2 h1 h1' hn with q | ⟨-, q2, q3⟩
      · grind
      · subst g q2
        grind
    · rw [if_neg g]
      have h3 : ((y2 - y1) / (x2 - x1) * (y1 + y2) - (x1 * x1 + x1 * x2 + x2 * x2)) * (x2 - x1) = 0 := by grind
      grind
set_option maxHeartbeats 400000 in
theorem ea_0 {F : Type} [Lean.Grind.Field F] [DecidableEq F] {x1 y1 x2 y2 : F} (hn : x1 = x2 ∧ y1 = -y2) : ea (some (x1, y1)) (some (x2, y2)) = none := if_pos hn
set_option maxHeartbeats 400000 in
theorem ea_n0 {F : Type} [Lean.Grind.Field F] [DecidableEq F] (q : Option (F × F)) : ea none q = q := rfl
set_option maxHeartbeats 400000 in
theorem ea_0n {F : Type} [Lean.Grind.Field F] [DecidableEq F] (p : Option (F × F)) : ea p none = p := by cases p <;> rfl
set_option maxHeartbeats 400000 in
theorem en_en {F : Type} [Lean.Grind.Field F] (p : Option (F × F)) : en (en p) = p := by
  cases p with
  | none => rfl
  | some p =>
    obtain ⟨x, y⟩ := p
    show some (x, - -y) = some (x, y)
    have : - -y = y := by grind
    rw [this]
set_option maxHeartbeats 400000 in
theorem en_on {F : Type} [Lean.Grind.Field F] {b : F} {p : Option (F × F)} (h : onC b p) : onC b (en p) := by
  cases p with
  | none => trivial
  | some p =>
    obtain ⟨x, y⟩ := p
    show -y * -y = x * x * x + b
    have h' : y * y = x * x * x + b := h
    grind
set_option maxHeartbeats 400000 in
theorem ea_en {F : Type} [Lean.Grind.Field F] [DecidableEq F] (p : Option (F × F)) : ea p (en p) = none := by
  cases p with
  | none => rfl
  | some p =>
    obtain ⟨x, y⟩ := p
    refine ea_0 ⟨rfl, ?_⟩
    show y = - -y
    grind
set_option maxHeartbeats 400000 in
theorem ea_on {F : Type} [Lean.Grind.Field F] [DecidableEq F] (h2 : (2 : F) ≠ 0) {b : F} {p q : Option (F × F)} (hp : onC b p) (hq : onC b q) : onC b (ea p q) := by
  cases p with
  | none => exact hq
  | some p =>
    cases q with
    | none => exact hp
    | some q =>
      obtain ⟨x1, y1⟩ := p
      obtain ⟨x2, y2⟩ := q
      by_cases hn : x1 = x2 ∧ y1 = -y2
      · rw [ea_0 hn]; trivial
      · obtain ⟨l, x3, y3, e, s⟩ := ea_R h2 hp hq hn
        rw [e]
        exact sR_on hp s
set_option maxHeartbeats 400000 in
theorem ea_c {F : Type} [Lean.Grind.Field F] [DecidableEq F] (h2 : (2 : F) ≠ 0) {b : F} {p q : Option (F × F)} (hp : onC b p) (hq : onC b q) : ea p q = ea q p := by
  cases p with
  | none => rw [ea_n0, ea_0n]
  | some p =>
    cases q with
    | none => rw [ea_n0, ea_0n]
    | some q =>
      obtain ⟨x1, y1⟩ := p
      obtain ⟨x2, y2⟩ := q
      by_cases hn : x1 = x2 ∧ y1 = -y2
      · have hn' : x2 = x1 ∧ y2 = -y1 := ⟨hn.1.symm, by grind⟩
        rw [ea_0 hn, ea_0 hn']
      · have hn' : ¬ (x2 = x1 ∧ y2 = -y1) := fun h => hn ⟨h.1.symm, by grind⟩
        obtain ⟨l, x3, y3, e, s⟩ := ea_R h2 hp hq hn
        obtain ⟨l', x3', y3', e', s'⟩ := ea_R h2 hq hp hn'
        obtain ⟨-, g1, g2⟩ := sR_u h2 hp hq hn s (sR_c s')
        rw [e, e', g1, g2]
set_option maxHeartbeats 400000 in
/-- the opposite of a sum -/
theorem en_ea {F : Type} [Lean.Grind.Field F] [DecidableEq F] (h2 : (2 : F) ≠ 0) {b : F} {p q : Option (F × F)} (hp : onC b p) (hq : onC b q) : en (ea p q) = ea (en p) (en q) := by
  cases p with
  | none => rw [ea_n0]; rfl
  | some p =>
    cases q with
    | none => rw [ea_0n]; rfl
    | some q =>
      obtain ⟨x1, y1⟩ := p
      obtain ⟨x2, y2⟩ := q
      have hp' := en_on hp
      have hq' := en_on hq
      by_cases hn : x1 = x2 ∧ y1 = -y2
      · have hn' : x1 = x2 ∧ -y1 = - -y2 := ⟨hn.1, by grind⟩
        rw [ea_0 hn]
        exact (ea_0 hn').symm
      · have hn' : ¬ (x1 = x2 ∧ -y1 = - -y2) := fun h => hn ⟨h.1, by grind⟩
        obtain ⟨l, x3, y3, e, s⟩ := ea_R h2 hp hq hn
        obtain ⟨l', x3', y3', e', s'⟩ := ea_R h2 hp' hq' hn'
        have s2 : sR x1 (-y1) x2 (-y2) (-l) x3 (-y3) := by
          obtain ⟨a1, a2, a3, a4⟩ := s
          refine ⟨?_, ?_, ?_, ?_⟩ <;> grind
        obtain ⟨-, g1, g2⟩ := sR_u h2 hp' hq' hn' s2 s'
        rw [e]
        show some (x3, -y3) = ea (some (x1, -y1)) (some (x2, -y2))
        rw [e', g1, g2]
set_option maxHeartbeats 400000 in
/-- the way back -/
theorem ea_b {F : Type} [Lean.Grind.Field F] [DecidableEq F] (h2 : (2 : F) ≠ 0) (h3 : (3 : F) ≠ 0) {b : F} (hb : b ≠ 0) {p q : Option (F × F)} (hp : onC b p) (hq : onC b q) : ea (ea p q) (en q) = p := by
  cases p with
  | none => rw [ea_n0, ea_en]
  | some p =>
    cases q with
    | none => rw [ea_0n]; exact ea_0n _
    | some q =>
      obtain ⟨x1, y1⟩ := p
      obtain ⟨x2, y2⟩ := q
      have hq' := en_on hq
      by_cases hn : x1 = x2 ∧ y1 = -y2
      · rw [ea_0 hn, ea_n0]
        show some (x2, -y2) = some (x1, y1)
        rw [hn.1, hn.2]
      · obtain ⟨l, x3, y3, e, s⟩ := ea_R h2 hp hq hn
        have k3 := sR_on hp s
        rw [e]
        have hs : sR x3 y3 x2 (-y2) (-l) x1 y1 := by
          by_cases g : x1 = x2
          · rcases sR_d h2 hp hq hn with q | ⟨-, q2, q3⟩
            · exact absurd (by grind) q
            · have q2 : y1 = y2 := q2
              subst g q2
              exact sR_b2 hp s
          · exact sR_b hp hq g s
        by_cases hn2 : x3 = x2 ∧ y3 = - -y2
        · exfalso
          obtain ⟨a1, a2, a3, a4⟩ := hs
          obtain ⟨q1, q2⟩ := hn2
          have q3 : y3 = y2 := by grind
          subst q1 q3
          have c1 : 2 * y3 = 0 := by grind
          have c2 : y3 = 0 := by grind
          have c3 : 3 * (x3 * x3) = 0 := by grind
          have c4 : x3 * x3 = 0 := by grind
          have c5 : x3 = 0 := by grind
          apply hb
          have k3' : y3 * y3 = x3 * x3 * x3 + b := k3
          grind
        · obtain ⟨l', x3', y3', e', s'⟩ := ea_R h2 k3 hq' hn2
          obtain ⟨-, g1, g2⟩ := sR_u h2 k3 hq' hn2 hs s'
          show ea (some (x3, y3)) (some (x2, -y2)) = _
          rw [e', g1, g2]
