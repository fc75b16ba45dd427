-- a point twice, and a third one
set_option maxHeartbeats 400000 in
theorem f_A2 {F : Type} [Lean.Grind.Field F] {b x1 y1 l x4 y4 m : F} (h1 : y1 * y1 = x1 * x1 * x1 + b) (hy : y1 + y1 ≠ 0) (h : sR x1 y1 x1 y1 l x4 y4) : fv (-(l + m)) (x4 + l * m) (l * (y4 - m * x4) + m * (-y4 - l * x4) + x4 * x4 + l * m * x4) x1 y1 = 0 ∧ (2 * x1 + (x4 + l * m)) * (2 * y1) - (l + m) * (3 * x1 * x1) = 0 := by
  obtain ⟨e1, e2, e3, e4⟩ := h
  unfold fv
  by_cases g : x1 = x4
  · have e8 : y4 = -y1 := by grind
    refine ⟨by grind, ?_⟩
    have e5 : l * l = 3 * x1 := by grind
    have e6 : 3 * x1 * x1 = 2 * l * y1 := by grind
    rw [e6]
    grind
  · have e5 : y1 = l * x1 + (-y4 - l * x4) := by grind
    have e6 : (x1 * x1 + -(l + m) * y1 + (x4 + l * m) * x1 + (l * (y4 - m * x4) + m * (-y4 - l * x4) + x4 * x4 + l * m * x4)) * (x1 - x4) = 0 := by
      have h4 : y4 * y4 = x4 * x4 * x4 + b := by grind
      grind
    have e7 : x1 * x1 + -(l + m) * y1 + (x4 + l * m) * x1 + (l * (y4 - m * x4) + m * (-y4 - l * x4) + x4 * x4 + l * m * x4) = 0 := by grind
    refine ⟨e7, ?_⟩
    have e8 : ((2 * x1 + (x4 + l * m)) * (2 * y1) - (l + m) * (3 * x1 * x1)) * (x1 - x4) = 0 := by grind
    grind
set_option maxHeartbeats 400000 in
theorem f_B2 {F : Type} [Lean.Grind.Field F] {b x1 y1 x3 y3 n x6 y6 r x7 y7 : F} (h1 : y1 * y1 = x1 * x1 * x1 + b) (h3 : y3 * y3 = x3 * x3 * x3 + b) (hx : x1 ≠ x6) (h : sR x1 y1 x3 y3 n x6 y6) (h' : sR x1 y1 x6 y6 r x7 y7) : fv (-(n + r)) (x6 + n * r) (n * (y6 - r * x6) + r * (-y6 - n * x6) + x6 * x6 + n * r * x6) x1 y1 = 0 ∧ (2 * x1 + (x6 + n * r)) * (2 * y1) - (n + r) * (3 * x1 * x1) = 0 := by
  have h6 := sR_on h1 h
  obtain ⟨e1, e2, e3, e4⟩ := h
  obtain ⟨f1, f2, f3, f4⟩ := h'
  unfold fv
  have e5 : y1 = n * x1 + (-y6 - n * x6) := by grind
  have e5' : y1 = r * x1 + (y6 - r * x6) := by grind
  have e6 : (x1 * x1 + -(n + r) * y1 + (x6 + n * r) * x1 + (n * (y6 - r * x6) + r * (-y6 - n * x6) + x6 * x6 + n * r * x6)) * (x1 - x6) = 0 := by
    grind
  have e7 : x1 * x1 + -(n + r) * y1 + (x6 + n * r) * x1 + (n * (y6 - r * x6) + r * (-y6 - n * x6) + x6 * x6 + n * r * x6) = 0 := by grind
  refine ⟨e7, ?_⟩
  have e8 : ((2 * x1 + (x6 + n * r)) * (2 * y1) - (n + r) * (3 * x1 * x1)) * (x1 - x6) = 0 := by grind
  grind
set_option maxHeartbeats 400000 in
theorem nc2 {F : Type} [Lean.Grind.Field F] {b x1 y1 x3 y3 l x4 y4 : F} (h1 : y1 * y1 = x1 * x1 * x1 + b) (h3 : y3 * y3 = x3 * x3 * x3 + b) (n13 : x1 ≠ x3) (h : sR x1 y1 x1 y1 l x4 y4) (hn : ¬ (x4 = x3 ∧ y4 = -y3)) : (y3 - y1) - l * (x3 - x1) ≠ 0 := by
  intro e
  obtain ⟨e1, e2, e3, e4⟩ := h
  have g2 : y3 = y1 + l * (x3 - x1) := by grind
  have g3 : (x3 - x1) * ((x3 - x1) * (x3 - x4)) = 0 := by grind
  have g5 : x3 = x4 := by grind
  apply hn
  refine ⟨g5.symm, ?_⟩
  grind
set_option maxHeartbeats 400000 in
theorem as_d {F : Type} [Lean.Grind.Field F] {b x1 y1 x3 y3 l x4 y4 m x5 y5 n x6 y6 r x7 y7 : F} (h1 : y1 * y1 = x1 * x1 * x1 + b) (h3 : y3 * y3 = x3 * x3 * x3 + b) (hy : y1 + y1 ≠ 0) (n13 : x1 ≠ x3) (n16 : x1 ≠ x6)
    (s1 : sR x1 y1 x1 y1 l x4 y4) (s2 : sR x4 y4 x3 y3 m x5 y5) (hn : ¬ (x4 = x3 ∧ y4 = -y3)) (s3 : sR x1 y1 x3 y3 n x6 y6) (s4 : sR x1 y1 x6 y6 r x7 y7) : x5 = x7 ∧ y5 = y7 := by
  have hd := nc2 h1 h3 n13 s1 hn
  have h4 := sR_on h1 s1
  obtain ⟨a1, a2⟩ := f_A2 (m := m) h1 hy s1
  have a3 := f_T (l := l) h3 h4 s2.1 s2.2.1
  obtain ⟨a5, a6⟩ := f_D h1 s1 s2
  obtain ⟨b1, b2⟩ := f_B2 h1 h3 n16 s3 s4
  have b3 := f_A (m := r) h3 h1 n13.symm (sR_c s3)
  have s4' := sR_c s4
  obtain ⟨b5, b6⟩ := f_D h1 s3 s4'
  have et : l * (2 * y1) = 3 * x1 * x1 := by
    have := s1.2.1
    grind
  generalize l * (y4 - m * x4) + m * (-y4 - l * x4) + x4 * x4 + l * m * x4 = G at *
  generalize n * (y6 - r * x6) + r * (-y6 - n * x6) + x6 * x6 + n * r * x6 = G' at *
  generalize hB : x4 + l * m = B at *
  generalize hB' : x6 + n * r = B' at *
  generalize hA : l + m = A at *
  generalize hA' : n + r = A' at *
  clear s1 s2 s3 s4 s4' h4 hn hB hB' hA hA' h3 n16
  unfold fv at *
  have g1 : (B - B') * (2 * y1) = (A - A') * (3 * x1 * x1) := by grind
  have g2 : (B - B' - (A - A') * l) * (y1 + y1) = 0 := by grind
  have g3 : B - B' = (A - A') * l := by grind
  have g4 : (A - A') * ((y3 - y1) - l * (x3 - x1)) = 0 := by grind
  have hA : A = A' := by grind
  have hB : B = B' := by grind
  have hG : G = G' := by grind
  subst hA hB hG
  have hx : x5 = x7 := by grind
  subst hx
  refine ⟨rfl, ?_⟩
  have hA0 : A ≠ 0 := by
    intro e
    subst e
    have c1 : (2 * x1 + B) * (y1 + y1) = 0 := by grind
    have c2 : B = -(2 * x1) := by grind
    have c3 : (x3 - x1) * (x3 - x1) = 0 := by grind
    grind
  have : A * (y5 - y7) = 0 := by grind
  grind
set_option maxHeartbeats 400000 in
/-- the same x: the same point, or the opposite -/
theorem sx {F : Type} [Lean.Grind.Field F] {b x1 y1 x2 y2 : F} (h1 : y1 * y1 = x1 * x1 * x1 + b) (h2 : y2 * y2 = x2 * x2 * x2 + b) (a : (some (x2, y2) : Option (F × F)) ≠ some (x1, y1)) (c : (some (x2, y2) : Option (F × F)) ≠ en (some (x1, y1))) : x1 ≠ x2 := by
  intro e
  subst e
  have g : (y2 - y1) * (y2 + y1) = 0 := by grind
  by_cases q : y2 = y1
  · exact a (by rw [q])
  · refine c ?_
    have : y2 = -y1 := by grind
    rw [this]
    rfl
set_option maxHeartbeats 400000 in
theorem as_2 {F : Type} [Lean.Grind.Field F] [DecidableEq F] (h2 : (2 : F) ≠ 0) (h3 : (3 : F) ≠ 0) {b : F} (hb : b ≠ 0) {p q t : Option (F × F)} (hp : onC b p) (hq : onC b q) (ht : onC b t) (np : p ≠ none) (nq : q ≠ none) (n1 : q ≠ p) (n2 : q ≠ en p) (n3 : t ≠ p) (n4 : t ≠ en p) (n5 : t ≠ q) (n6 : t ≠ en q) (n7 : t ≠ en (ea p q)) : ea (ea p q) t = ea p (ea q t) := by
  cases t with
  | none => rw [ea_0n, ea_0n]
  | some t =>
    cases p with
    | none => exact absurd rfl np
    | some p =>
      cases q with
      | none => exact absurd rfl nq
      | some q =>
        have hk : ea (some q) (some t) ≠ en (some p) := by
          intro e
          apply n7
          have h := ea_b h2 h3 hb ht hq
          rw [ea_c h2 ht hq, e] at h
          rw [← h, en_ea h2 hp hq]
        obtain ⟨x1, y1⟩ := p
        obtain ⟨x2, y2⟩ := q
        obtain ⟨x3, y3⟩ := t
        have n12 := sx hp hq n1 n2
        have n13 := sx hp ht n3 n4
        have n23 := sx hq ht n5 n6
        obtain ⟨l, x4, y4, e1, s1⟩ := ea_R h2 hp hq (fun h => n12 h.1)
        have k4 := sR_on hp s1
        rw [e1] at n7 ⊢
        have hn : ¬ (x4 = x3 ∧ y4 = -y3) := by
          intro h
          apply n7
          show some (x3, y3) = some (x4, -y4)
          have : -y4 = y3 := by grind
          rw [h.1, this]
        obtain ⟨m, x5, y5, e2, s2⟩ := ea_R h2 k4 ht hn
        obtain ⟨n, x6, y6, e3, s3⟩ := ea_R h2 hq ht (fun h => n23 h.1)
        have k6 := sR_on hq s3
        rw [e3] at hk ⊢
        have hn2 : ¬ (x1 = x6 ∧ y1 = -y6) := by
          intro h
          apply hk
          show some (x6, y6) = some (x1, -y1)
          have : -y1 = y6 := by grind
          rw [h.1, this]
        obtain ⟨r, x7, y7, e4, s4⟩ := ea_R h2 hp k6 hn2
        obtain ⟨g1, g2⟩ := as_g hp hq ht n12 n13 n23 s1 s2 hn s3 s4
        rw [e2, e4, g1, g2]
set_option maxHeartbeats 400000 in
theorem as_3 {F : Type} [Lean.Grind.Field F] [DecidableEq F] (h2 : (2 : F) ≠ 0) (h3 : (3 : F) ≠ 0) {b : F} (hb : b ≠ 0) {p t : Option (F × F)} (hp : onC b p) (ht : onC b t) (np : p ≠ en p) (n3 : t ≠ p) (n4 : t ≠ en p) (n7 : t ≠ en (ea p p)) : ea (ea p p) t = ea p (ea p t) := by
  cases t with
  | none => rw [ea_0n, ea_0n]
  | some t =>
    cases p with
    | none => exact absurd rfl np
    | some p =>
      have hk : ea (some p) (some t) ≠ en (some p) := by
        intro e
        apply n7
        have h := ea_b h2 h3 hb ht hp
        rw [ea_c h2 ht hp, e] at h
        rw [← h, en_ea h2 hp hp]
      have hk2 : ea (some p) (some t) ≠ some p := by
        intro e
        have h := ea_b h2 h3 hb ht hp
        rw [ea_c h2 ht hp, e, ea_en] at h
        cases h
      obtain ⟨x1, y1⟩ := p
      obtain ⟨x3, y3⟩ := t
      have n13 := sx hp ht n3 n4
      have hy : y1 + y1 ≠ 0 := by
        intro h
        apply np
        show some (x1, y1) = some (x1, -y1)
        have : -y1 = y1 := by grind
        rw [this]
      obtain ⟨l, x4, y4, e1, s1⟩ := ea_R h2 hp hp (fun h => hy (by grind))
      have k4 := sR_on hp s1
      rw [e1] at n7 ⊢
      have hn : ¬ (x4 = x3 ∧ y4 = -y3) := by
        intro h
        apply n7
        show some (x3, y3) = some (x4, -y4)
        have : -y4 = y3 := by grind
        rw [h.1, this]
      obtain ⟨m, x5, y5, e2, s2⟩ := ea_R h2 k4 ht hn
      obtain ⟨n, x6, y6, e3, s3⟩ := ea_R h2 hp ht (fun h => n13 h.1)
      have k6 := sR_on hp s3
      rw [e3] at hk hk2 ⊢
      have n16 := sx hp k6 hk2 hk
      obtain ⟨r, x7, y7, e4, s4⟩ := ea_R h2 hp k6 (fun h => n16 h.1)
      obtain ⟨g1, g2⟩ := as_d hp ht hy n13 n16 s1 s2 hn s3 s4
      rw [e2, e4, g1, g2]
set_option maxHeartbeats 400000 in
/-- all but a few third points -/
theorem as_4 {F : Type} [Lean.Grind.Field F] [DecidableEq F] (h2 : (2 : F) ≠ 0) (h3 : (3 : F) ≠ 0) {b : F} (hb : b ≠ 0) {p q : Option (F × F)} (hp : onC b p) (hq : onC b q) : ∃ L : List (Option (F × F)), L.length ≤ 6 ∧ ∀ t, onC b t → t ∉ L → ea (ea p q) t = ea p (ea q t) := by
  by_cases np : p = none
  · subst np
    exact ⟨[], by simp, fun t _ _ => by rw [ea_n0, ea_n0]⟩
  by_cases nq : q = none
  · subst nq
    exact ⟨[], by simp, fun t _ _ => by rw [ea_0n, ea_n0]⟩
  by_cases n2 : q = en p
  · subst n2
    refine ⟨[], by simp, fun t ht _ => ?_⟩
    rw [ea_en, ea_n0, ea_c h2 hp (ea_on h2 hq ht), ea_c h2 hq ht]
    have h := ea_b h2 h3 hb ht hq
    rw [en_en] at h
    exact h.symm
  by_cases n1 : q = p
  · subst n1
    refine ⟨[q, en q, en (ea q q)], by simp, fun t ht hL => ?_⟩
    simp only [List.mem_cons, List.not_mem_nil, or_false, not_or] at hL
    exact as_3 h2 h3 hb hq ht n2 hL.1 hL.2.1 hL.2.2
  · refine ⟨[p, en p, q, en q, en (ea p q)], by simp, fun t ht hL => ?_⟩
    simp only [List.mem_cons, List.not_mem_nil, or_false, not_or] at hL
    exact as_2 h2 h3 hb hp hq ht np nq n1 n2 hL.1 hL.2.1 hL.2.2.1 hL.2.2.2.1 hL.2.2.2.2
set_option maxHeartbeats 400000 in
theorem ea_as {F : Type} [Lean.Grind.Field F] [DecidableEq F] (h2 : (2 : F) ≠ 0) (h3 : (3 : F) ≠ 0) {b : F} (hb : b ≠ 0) (hM : ∀ L : List (Option (F × F)), L.length ≤ 24 → ∃ t, onC b t ∧ t ∉ L) {p q r : Option (F × F)} (hp : onC b p) (hq : onC b q) (hr : onC b r) : ea (ea p q) r = ea p (ea q r) := by
  obtain ⟨L1, l1, g1⟩ := as_4 h2 h3 hb (ea_on h2 hp hq) hr
  obtain ⟨L2, l2, g2⟩ := as_4 h2 h3 hb hp hq
  obtain ⟨L3, l3, g3⟩ := as_4 h2 h3 hb hq hr
  obtain ⟨L4, l4, g4⟩ := as_4 h2 h3 hb hp (ea_on h2 hq hr)
  obtain ⟨t, ht, hL⟩ := hM (L1 ++ (L2.map (fun X => ea X (en r)) ++ (L3 ++ L4))) (by simp only [List.length_append, List.length_map]; omega)
  simp only [List.mem_append, not_or] at hL
  obtain ⟨k1, k2, k3, k4⟩ := hL
  have e1 := g1 t ht k1
  have e2 := g2 (ea r t) (ea_on h2 hr ht) (fun h => k2 (List.mem_map.mpr ⟨_, h, by rw [ea_c h2 hr ht]; exact ea_b h2 h3 hb ht hr⟩))
  have e3 := g3 t ht k3
  have e4 := g4 t ht k4
  have e5 : ea (ea (ea p q) r) t = ea (ea p (ea q r)) t := by rw [e1, e2, ← e3, ← e4]
  have f1 := ea_b h2 h3 hb (ea_on h2 (ea_on h2 hp hq) hr) ht
  have f2 := ea_b h2 h3 hb (ea_on h2 hp (ea_on h2 hq hr)) ht
  rw [e5, f2] at f1
  exact f1.symm
