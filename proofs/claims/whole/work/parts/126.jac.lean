-- points with a third number: (X, Y, Z) stands for (X / Z Z, Y / Z Z Z)
def jr {F : Type} [Lean.Grind.Field F] (X Y Z : F) (R : Option (F × F)) : Prop := Z ≠ 0 ∧ ∃ x y, R = some (x, y) ∧ X = x * Z * Z ∧ Y = y * Z * Z * Z
set_option maxHeartbeats 400000 in
theorem f_m0 {F : Type} [Lean.Grind.Field F] {a b : F} (ha : a ≠ 0) (hb : b ≠ 0) : a * b ≠ 0 := by grind
set_option maxHeartbeats 400000 in
theorem f_dbl {F : Type} [Lean.Grind.Field F] {x y Z l W : F} (h : l * (y + y) = x * x + x * x + x * x) (hW : W = 2 * (y * Z * Z * Z * Z)) :
    (3 * (x * Z * Z * (x * Z * Z))) * (3 * (x * Z * Z * (x * Z * Z))) - 8 * (x * Z * Z * (y * Z * Z * Z * (y * Z * Z * Z))) = (l * l - x - x) * W * W := by
  subst hW
  have h2 : 2 * (l * y) = 3 * (x * x) := by grind
  have h4 : (2 * (l * y)) * (2 * (l * y)) = (3 * (x * x)) * (3 * (x * x)) := by rw [h2]
  grind
set_option maxHeartbeats 400000 in
theorem f_dbl2 {F : Type} [Lean.Grind.Field F] {x y Z l W X' x3 : F} (h : l * (y + y) = x * x + x * x + x * x) (hW : W = 2 * (y * Z * Z * Z * Z)) (hX : X' = x3 * W * W) :
    (3 * (x * Z * Z * (x * Z * Z))) * (4 * (x * Z * Z * (y * Z * Z * Z * (y * Z * Z * Z))) - X') - 8 * (y * Z * Z * Z * (y * Z * Z * Z) * (y * Z * Z * Z * (y * Z * Z * Z))) = (l * (x - x3) - y) * W * W * W := by
  subst hX
  subst hW
  have h2 : 3 * (x * x) = 2 * (l * y) := by grind
  have e : (3 * (x * Z * Z * (x * Z * Z))) = 2 * (l * y) * (Z * Z * Z * Z) := by rw [← h2]; grind
  rw [e]
  grind
set_option maxHeartbeats 400000 in
theorem jr_dbl {F : Type} [Lean.Grind.Field F] [DecidableEq F] (h2 : (2 : F) ≠ 0) {X Y Z X' Y' Z' : F} {R : Option (F × F)} (h : jr X Y Z R) (hY : Y ≠ 0) (eZ : Z' = 2 * (Y * Z)) (eX : X' = (3 * (X * X)) * (3 * (X * X)) - 8 * (X * (Y * Y))) (eY : Y' = (3 * (X * X)) * (4 * (X * (Y * Y)) - X') - 8 * (Y * Y * (Y * Y))) : jr X' Y' Z' (ea R R) := by
  obtain ⟨hZ, x, y, rfl, hX, hY'⟩ := h
  have hy : y ≠ 0 := by
    intro q
    apply hY
    rw [hY', q]
    grind
  have hyy : y + y ≠ 0 := by
    intro q
    have : 2 * y = 0 := by grind
    exact f_m0 h2 hy this
  have hl : ((x * x + x * x + x * x) / (y + y)) * (y + y) = x * x + x * x + x * x := dvc hyy
  generalize (x * x + x * x + x * x) / (y + y) = l at hl
  have hW : Z' = 2 * (y * Z * Z * Z * Z) := by rw [eZ, hY']
  have e1 : X' = (l * l - x - x) * Z' * Z' := by
    rw [eX, hX, hY']
    exact f_dbl hl hW
  refine ⟨?_, l * l - x - x, l * (x - (l * l - x - x)) - y, ea_f2 hyy hl, e1, ?_⟩
  · rw [eZ]
    exact f_m0 h2 (f_m0 hY hZ)
  · rw [eY, hX, hY']
    exact f_dbl2 hl hW e1
set_option maxHeartbeats 400000 in
theorem f_add {F : Type} [Lean.Grind.Field F] {x1 y1 Z1 x2 y2 Z2 l H R W : F} (h : l * (x2 - x1) = y2 - y1) (hH : H = (x2 - x1) * (Z1 * Z1 * (Z2 * Z2))) (hR : R = (y2 - y1) * (Z1 * Z1 * Z1 * (Z2 * Z2 * Z2))) (hW : W = Z1 * H * Z2) :
    R * R - H * H * H - 2 * (x1 * (Z1 * Z1 * (Z2 * Z2)) * (H * H)) = (l * l - x1 - x2) * W * W := by
  have e : R * (x2 - x1) * 0 = 0 := by grind
  have eR : R = l * (x2 - x1) * (Z1 * Z1 * Z1 * (Z2 * Z2 * Z2)) := by rw [hR, h]
  subst hW
  rw [eR, hH]
  grind
set_option maxHeartbeats 400000 in
theorem f_add2 {F : Type} [Lean.Grind.Field F] {x1 y1 Z1 x2 y2 Z2 l H R W x3 X3 : F} (h : l * (x2 - x1) = y2 - y1) (hH : H = (x2 - x1) * (Z1 * Z1 * (Z2 * Z2))) (hR : R = (y2 - y1) * (Z1 * Z1 * Z1 * (Z2 * Z2 * Z2))) (hW : W = Z1 * H * Z2) (hX : X3 = x3 * W * W) :
    R * (x1 * (Z1 * Z1 * (Z2 * Z2)) * (H * H) - X3) - y1 * (Z1 * Z1 * Z1 * (Z2 * Z2 * Z2)) * (H * H * H) = (l * (x1 - x3) - y1) * W * W * W := by
  have eR : R = l * (x2 - x1) * (Z1 * Z1 * Z1 * (Z2 * Z2 * Z2)) := by rw [hR, h]
  subst hX
  subst hW
  rw [eR, hH]
  grind
set_option maxHeartbeats 400000 in
/-- the sum, where the two x differ -/
theorem jr_add {F : Type} [Lean.Grind.Field F] [DecidableEq F] {X1 Y1 Z1 X2 Y2 Z2 H R W X3 Y3 A B : F} {P Q : Option (F × F)} (hP : jr X1 Y1 Z1 P) (hQ : jr X2 Y2 Z2 Q) (eA : A = X1 * (Z2 * Z2)) (eB : B = Y1 * (Z2 * Z2 * Z2)) (eH : H = X2 * (Z1 * Z1) - A) (eR : R = Y2 * (Z1 * Z1 * Z1) - B) (hH : H ≠ 0) (eW : W = Z1 * H * Z2) (eX : X3 = R * R - H * H * H - 2 * (A * (H * H))) (eY : Y3 = R * (A * (H * H) - X3) - B * (H * H * H)) : jr X3 Y3 W (ea P Q) := by
  obtain ⟨hZ1, x1, y1, rfl, hX1, hY1⟩ := hP
  obtain ⟨hZ2, x2, y2, rfl, hX2, hY2⟩ := hQ
  have eH' : H = (x2 - x1) * (Z1 * Z1 * (Z2 * Z2)) := by rw [eH, eA, hX1, hX2]; grind
  have eR' : R = (y2 - y1) * (Z1 * Z1 * Z1 * (Z2 * Z2 * Z2)) := by rw [eR, eB, hY1, hY2]; grind
  have hx : x2 - x1 ≠ 0 := by
    intro q
    apply hH
    rw [eH', q]
    grind
  have hne : x1 ≠ x2 := fun q => hx (by rw [q]; grind)
  have hl : ((y2 - y1) / (x2 - x1)) * (x2 - x1) = y2 - y1 := dvc hx
  generalize (y2 - y1) / (x2 - x1) = l at hl
  have eA' : A = x1 * (Z1 * Z1 * (Z2 * Z2)) := by rw [eA, hX1]; grind
  have eB' : B = y1 * (Z1 * Z1 * Z1 * (Z2 * Z2 * Z2)) := by rw [eB, hY1]; grind
  have e1 : X3 = (l * l - x1 - x2) * W * W := by
    rw [eX, eA']
    exact f_add hl eH' eR' eW
  refine ⟨?_, l * l - x1 - x2, l * (x1 - (l * l - x1 - x2)) - y1, ea_f1 hne hl, e1, ?_⟩
  · rw [eW]
    exact f_m0 (f_m0 hZ1 hH) hZ2
  · rw [eY, eA', eB']
    exact f_add2 hl eH' eR' eW e1
set_option maxHeartbeats 400000 in
/-- the same x -/
theorem jr_eq {F : Type} [Lean.Grind.Field F] [DecidableEq F] {X1 Y1 Z1 X2 Y2 Z2 : F} {P Q : Option (F × F)} (hP : jr X1 Y1 Z1 P) (hQ : jr X2 Y2 Z2 Q) (hH : X2 * (Z1 * Z1) - X1 * (Z2 * Z2) = 0) : ∃ x y y', P = some (x, y) ∧ Q = some (x, y') ∧ (Y2 * (Z1 * Z1 * Z1) - Y1 * (Z2 * Z2 * Z2) = 0 ↔ y = y') := by
  obtain ⟨hZ1, x1, y1, rfl, hX1, hY1⟩ := hP
  obtain ⟨hZ2, x2, y2, rfl, hX2, hY2⟩ := hQ
  have h2 : Z1 * Z1 * (Z2 * Z2) ≠ 0 := f_m0 (f_m0 hZ1 hZ1) (f_m0 hZ2 hZ2)
  have h3 : Z1 * Z1 * Z1 * (Z2 * Z2 * Z2) ≠ 0 := f_m0 (f_m0 (f_m0 hZ1 hZ1) hZ1) (f_m0 (f_m0 hZ2 hZ2) hZ2)
  have ex : x2 - x1 = 0 := by
    apply Decidable.byContradiction
    intro q
    apply f_m0 q h2
    rw [← hH, hX1, hX2]
    grind
  have ex' : x2 = x1 := by grind
  subst ex'
  refine ⟨x2, y1, y2, rfl, rfl, ?_⟩
  rw [hY1, hY2]
  constructor
  · intro q
    apply Decidable.byContradiction
    intro n
    have n' : y2 - y1 ≠ 0 := fun e => n (by grind)
    apply f_m0 n' h3
    rw [← q]
    grind
  · intro q
    subst q
    grind
set_option maxHeartbeats 400000 in
theorem jr_neg {F : Type} [Lean.Grind.Field F] {X Y Z : F} {P : Option (F × F)} (h : jr X Y Z P) : jr X (-Y) Z (en P) := by
  obtain ⟨hZ, x, y, rfl, hX, hY⟩ := h
  exact ⟨hZ, x, -y, rfl, hX, by rw [hY]; grind⟩
set_option maxHeartbeats 400000 in
theorem jr_1 {F : Type} [Lean.Grind.Field F] {X Y Z : F} (h01 : (1 : F) ≠ 0) (hZ : Z = 1) : jr X Y Z (some (X, Y)) := by
  subst hZ
  exact ⟨h01, X, Y, rfl, by grind, by grind⟩
