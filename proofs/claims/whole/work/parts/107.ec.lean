-- y^2 = x^3 + b over a field: the sum of two points, by the slope l
def sR {F : Type} [Lean.Grind.Field F] (x1 y1 x2 y2 l x3 y3 : F) : Prop :=
  l * (x2 - x1) = y2 - y1 ∧ l * (y1 + y2) = x1 * x1 + x1 * x2 + x2 * x2 ∧ x3 = l * l - x1 - x2 ∧ y3 = l * (x1 - x3) - y1
set_option maxHeartbeats 400000 in
theorem sR_on {F : Type} [Lean.Grind.Field F] {b x1 y1 x2 y2 l x3 y3 : F} (h1 : y1 * y1 = x1 * x1 * x1 + b) (h : sR x1 y1 x2 y2 l x3 y3) : y3 * y3 = x3 * x3 * x3 + b := by
  obtain ⟨e1, e2, e3, e4⟩ := h
  grind
set_option maxHeartbeats 400000 in
theorem sR_c {F : Type} [Lean.Grind.Field F] {x1 y1 x2 y2 l x3 y3 : F} (h : sR x1 y1 x2 y2 l x3 y3) : sR x2 y2 x1 y1 l x3 y3 := by
  obtain ⟨e1, e2, e3, e4⟩ := h
  refine ⟨?_, ?_, ?_, ?_⟩ <;> grind
set_option maxHeartbeats 400000 in
/-- not opposite: one of the two factors is not 0 -/
theorem sR_d {F : Type} [Lean.Grind.Field F] (h2 : (2 : F) ≠ 0) {b x1 y1 x2 y2 : F} (h1 : y1 * y1 = x1 * x1 * x1 + b) (h1' : y2 * y2 = x2 * x2 * x2 + b) (hn : ¬ (x1 = x2 ∧ y1 = -y2)) : x2 - x1 ≠ 0 ∨ (x1 = x2 ∧ y1 = y2 ∧ y1 + y2 ≠ 0) := by
  by_cases h : x1 = x2
  · right
    subst h
    have h3 : (y1 - y2) * (y1 + y2) = 0 := by grind
    have h4 : y1 + y2 ≠ 0 := by grind
    refine ⟨rfl, ?_, h4⟩
    grind
  · left
    grind
set_option maxHeartbeats 400000 in
theorem sR_u {F : Type} [Lean.Grind.Field F] (h2 : (2 : F) ≠ 0) {b x1 y1 x2 y2 l x3 y3 l' x3' y3' : F} (h1 : y1 * y1 = x1 * x1 * x1 + b) (h1' : y2 * y2 = x2 * x2 * x2 + b) (hn : ¬ (x1 = x2 ∧ y1 = -y2)) (h : sR x1 y1 x2 y2 l x3 y3) (h' : sR x1 y1 x2 y2 l' x3' y3') : l = l' ∧ x3 = x3' ∧ y3 = y3' := by
  obtain ⟨e1, e2, e3, e4⟩ := h
  obtain ⟨f1, f2, f3, f4⟩ := h'
  have hl : l = l' := by
    rcases sR_d h2 h1 h1' hn with g | ⟨-, -, g⟩
    · have : (l - l') * (x2 - x1) = 0 := by grind
      grind
    · have : (l - l') * (y1 + y2) = 0 := by grind
      grind
  subst hl
  refine ⟨rfl, ?_, ?_⟩ <;> grind
set_option maxHeartbeats 400000 in
theorem sR_e {F : Type} [Lean.Grind.Field F] (h2 : (2 : F) ≠ 0) {b x1 y1 x2 y2 : F} (h1 : y1 * y1 = x1 * x1 * x1 + b) (h1' : y2 * y2 = x2 * x2 * x2 + b) (hn : ¬ (x1 = x2 ∧ y1 = -y2)) : ∃ l x3 y3, sR x1 y1 x2 y2 l x3 y3 := by
  rcases sR_d h2 h1 h1' hn with g | ⟨g1, g2, g3⟩
  · refine ⟨(y2 - y1) / (x2 - x1), _, _, ?_, ?_, rfl, rfl⟩
    · grind
    · have h3 : ((y2 - y1) / (x2 - x1) * (y1 + y2) - (x1 * x1 + x1 * x2 + x2 * x2)) * (x2 - x1) = 0 := by grind
      grind
  · subst g1 g2
    refine ⟨(x1 * x1 + x1 * x1 + x1 * x1) / (y1 + y1), _, _, ?_, ?_, rfl, rfl⟩
    · grind
    · grind
set_option maxHeartbeats 400000 in
/-- the way back: the sum less the second is the first -/
theorem sR_b {F : Type} [Lean.Grind.Field F] {x1 y1 x2 y2 l x3 y3 : F} {b : F} (h1 : y1 * y1 = x1 * x1 * x1 + b) (h1' : y2 * y2 = x2 * x2 * x2 + b) (hx : x1 ≠ x2) (h : sR x1 y1 x2 y2 l x3 y3) : sR x3 y3 x2 (-y2) (-l) x1 y1 := by
  obtain ⟨e1, e2, e3, e4⟩ := h
  refine ⟨?_, ?_, ?_, ?_⟩
  · grind
  · have : (-l * (y3 + -y2) - (x3 * x3 + x3 * x2 + x2 * x2)) * (x2 - x1) = 0 := by grind
    grind
  · grind
  · grind
set_option maxHeartbeats 400000 in
theorem sR_b2 {F : Type} [Lean.Grind.Field F] {x1 y1 l x3 y3 : F} {b : F} (h1 : y1 * y1 = x1 * x1 * x1 + b) (h : sR x1 y1 x1 y1 l x3 y3) : sR x3 y3 x1 (-y1) (-l) x1 y1 := by
  obtain ⟨e1, e2, e3, e4⟩ := h
  refine ⟨?_, ?_, ?_, ?_⟩
  · grind
  · grind
  · grind
  · grind
/-- three points on a function 'x x + a y + c x + d' -/
def fv {F : Type} [Lean.Grind.Field F] (a c d x y : F) : F := x * x + a * y + c * x + d
set_option maxHeartbeats 400000 in
theorem f_A {F : Type} [Lean.Grind.Field F] {b x1 y1 x2 y2 l x4 y4 m : F} (h1 : y1 * y1 = x1 * x1 * x1 + b) (h1' : y2 * y2 = x2 * x2 * x2 + b) (hx : x1 ≠ x2) (h : sR x1 y1 x2 y2 l x4 y4) : fv (-(l + m)) (x4 + l * m) (l * (y4 - m * x4) + m * (-y4 - l * x4) + x4 * x4 + l * m * x4) x1 y1 = 0 := by
  have h4 := sR_on h1 h
  obtain ⟨e1, e2, e3, e4⟩ := h
  unfold fv
  by_cases g : x1 = x4
  · have hd : x2 - x1 ≠ 0 := by grind
    have e5 : x2 = l * l - 2 * x1 := by grind
    have e6 : (2 * y1 * l - 3 * x1 * x1) * (x2 - x1) = 0 := by grind
    have e7 : 2 * y1 * l = 3 * x1 * x1 := by grind
    have e8 : y4 = -y1 := by grind
    grind
  · have e5 : y1 = l * x1 + (-y4 - l * x4) := by grind
    have e6 : (x1 * x1 + -(l + m) * y1 + (x4 + l * m) * x1 + (l * (y4 - m * x4) + m * (-y4 - l * x4) + x4 * x4 + l * m * x4)) * (x1 - x4) = 0 := by grind
    grind
set_option maxHeartbeats 400000 in
theorem f_T {F : Type} [Lean.Grind.Field F] {b x3 y3 l x4 y4 m : F} (h3 : y3 * y3 = x3 * x3 * x3 + b) (h4 : y4 * y4 = x4 * x4 * x4 + b) (e1 : m * (x3 - x4) = y3 - y4) (e2 : m * (y4 + y3) = x4 * x4 + x4 * x3 + x3 * x3) : fv (-(l + m)) (x4 + l * m) (l * (y4 - m * x4) + m * (-y4 - l * x4) + x4 * x4 + l * m * x4) x3 y3 = 0 := by
  unfold fv
  by_cases g : x3 = x4
  · subst g
    have e5 : y3 = y4 := by grind
    grind
  · have e6 : (x3 * x3 + -(l + m) * y3 + (x4 + l * m) * x3 + (l * (y4 - m * x4) + m * (-y4 - l * x4) + x4 * x4 + l * m * x4)) * (x3 - x4) = 0 := by grind
    grind
set_option maxHeartbeats 400000 in
theorem f_D {F : Type} [Lean.Grind.Field F] {b x1 y1 x2 y2 x3 y3 l x4 y4 m x5 y5 : F} (h1 : y1 * y1 = x1 * x1 * x1 + b) (h : sR x1 y1 x2 y2 l x4 y4) (h' : sR x4 y4 x3 y3 m x5 y5) : fv (-(l + m)) (x4 + l * m) (l * (y4 - m * x4) + m * (-y4 - l * x4) + x4 * x4 + l * m * x4) x5 (-y5) = 0 ∧ x5 = (l + m) * (l + m) - 2 * (x4 + l * m) - x1 - x2 - x3 := by
  have h4 := sR_on h1 h
  have h5 := sR_on h4 h'
  obtain ⟨e1, e2, e3, e4⟩ := h
  obtain ⟨f1, f2, f3, f4⟩ := h'
  unfold fv
  refine ⟨?_, by grind⟩
  grind
