-- bytes elsewhere, and bytes that agree
set_option maxHeartbeats 400000 in
theorem cnt_sh (st : Nat → Int32) (B E a : Nat) : cnt st (B + E) (B + a) = (cnt (at0 B st) E a).map fun v => (v.1, B + v.2) := by
  unfold cnt
  rw [show B + a + 1 = B + (a + 1) from by omega, leP_b st B (a + 1) 2, leP_b st B (a + 1) 4, show at0 B st a = st (B + a) from rfl]
  by_cases c0 : E ≤ a
  · rw [if_pos c0, if_pos (by omega)]; rfl
  rw [if_neg c0, if_neg (by omega)]
  by_cases c1 : By (st (B + a)) < 253
  · rw [if_pos c1, if_pos c1]; rfl
  rw [if_neg c1, if_neg c1]
  by_cases c2 : By (st (B + a)) = 253
  · rw [if_pos c2, if_pos c2]
    by_cases c3 : a + 3 ≤ E ∧ 253 ≤ leP (at0 B st) (a + 1) 2
    · rw [if_pos c3, if_pos ⟨by omega, c3.2⟩]; rfl
    · rw [if_neg c3, if_neg (fun z => c3 ⟨by omega, z.2⟩)]; rfl
  rw [if_neg c2, if_neg c2]
  by_cases c4 : By (st (B + a)) = 254
  · rw [if_pos c4, if_pos c4]
    by_cases c3 : a + 5 ≤ E ∧ 65536 ≤ leP (at0 B st) (a + 1) 4
    · rw [if_pos c3, if_pos ⟨by omega, c3.2⟩]; rfl
    · rw [if_neg c3, if_neg (fun z => c3 ⟨by omega, z.2⟩)]; rfl
  · rw [if_neg c4, if_neg c4]; rfl
set_option maxHeartbeats 400000 in
theorem pIn_sh (st : Nat → Int32) (B E a : Nat) : pIn st (B + E) (B + a) = (pIn (at0 B st) E a).map fun v => (B + v.1, v.2) := by
  unfold pIn
  rw [Nat.add_assoc, cnt_sh]
  cases cnt (at0 B st) E (a + 36) with
  | none => rfl
  | some v =>
    show (if B + v.2 + v.1 + 4 ≤ B + E then some (B + v.2, v.1) else none) = (if v.2 + v.1 + 4 ≤ E then some (v.2, v.1) else none).map fun v => (B + v.1, v.2)
    by_cases q : v.2 + v.1 + 4 ≤ E
    · rw [if_pos q, if_pos (by omega)]; rfl
    · rw [if_neg q, if_neg (by omega)]; rfl
set_option maxHeartbeats 400000 in
theorem pOut_sh (st : Nat → Int32) (B E a : Nat) : pOut st (B + E) (B + a) = (pOut (at0 B st) E a).map fun v => (B + v.1, v.2) := by
  unfold pOut
  rw [Nat.add_assoc, cnt_sh]
  cases cnt (at0 B st) E (a + 8) with
  | none => rfl
  | some v =>
    show (if B + v.2 + v.1 ≤ B + E then some (B + v.2, v.1) else none) = (if v.2 + v.1 ≤ E then some (v.2, v.1) else none).map fun v => (B + v.1, v.2)
    by_cases q : v.2 + v.1 ≤ E
    · rw [if_pos q, if_pos (by omega)]; rfl
    · rw [if_neg q, if_neg (by omega)]; rfl
set_option maxHeartbeats 400000 in
theorem pL_sh {f f' : Nat → Option (Nat × Nat)} {B z : Nat} (h : ∀ a, f' (B + a) = (f a).map fun v => (B + v.1, v.2)) : ∀ n a, pL f' z n (B + a) = (pL f z n a).map fun w => (w.1.map (sh3 B), B + w.2)
  | 0, a => rfl
  | n + 1, a => by
    show ((f' (B + a)).bind fun v => (pL f' z n (v.1 + v.2 + z)).bind fun w => some ((B + a, v.1, v.2) :: w.1, w.2)) = ((f a).bind fun v => (pL f z n (v.1 + v.2 + z)).bind fun w => some ((a, v.1, v.2) :: w.1, w.2)).map fun w => (w.1.map (sh3 B), B + w.2)
    rw [h a]
    cases f a with
    | none => rfl
    | some v =>
      show ((pL f' z n (B + v.1 + v.2 + z)).bind fun w => some ((B + a, B + v.1, v.2) :: w.1, w.2)) = ((pL f z n (v.1 + v.2 + z)).bind fun w => some ((a, v.1, v.2) :: w.1, w.2)).map fun w => (w.1.map (sh3 B), B + w.2)
      rw [show B + v.1 + v.2 + z = B + (v.1 + v.2 + z) from by omega, pL_sh h n]
      cases pL f z n (v.1 + v.2 + z) with
      | none => rfl
      | some w => rfl
set_option maxHeartbeats 400000 in
theorem pTail_sh (st : Nat → Int32) (B E a : Nat) : pTail st (B + E) (B + a) = (pTail (at0 B st) E a).map fun w => (w.1.map (sh3 B), B + w.2) := by
  unfold pTail
  rw [cnt_sh]
  cases cnt (at0 B st) E a with
  | none => rfl
  | some v =>
    show ((pL (pOut st (B + E)) 0 v.1 (B + v.2)).bind fun w => if w.2 + 4 ≤ B + E then some (w.1, w.2 + 4) else none) = ((pL (pOut (at0 B st) E) 0 v.1 v.2).bind fun w => if w.2 + 4 ≤ E then some (w.1, w.2 + 4) else none).map fun w => (w.1.map (sh3 B), B + w.2)
    rw [pL_sh (f := pOut (at0 B st) E) (pOut_sh st B E)]
    cases pL (pOut (at0 B st) E) 0 v.1 v.2 with
    | none => rfl
    | some w =>
      show (if B + w.2 + 4 ≤ B + E then some (w.1.map (sh3 B), B + w.2 + 4) else none) = (if w.2 + 4 ≤ E then some (w.1, w.2 + 4) else none).map fun w => (w.1.map (sh3 B), B + w.2)
      by_cases q : w.2 + 4 ≤ E
      · rw [if_pos q, if_pos (by omega)]; rfl
      · rw [if_neg q, if_neg (by omega)]; rfl
def shW (B : Nat) (w : List In3 × Nat × List In3 × Nat) : List In3 × Nat × List In3 × Nat := (w.1.map (sh3 B), B + w.2.1, w.2.2.1.map (sh3 B), B + w.2.2.2)
set_option maxHeartbeats 400000 in
theorem pTx_sh (st : Nat → Int32) (B E a : Nat) : pTx st (B + E) (B + a) = (pTx (at0 B st) E a).map (shW B) := by
  unfold pTx
  rw [Nat.add_assoc, cnt_sh]
  cases cnt (at0 B st) E (a + 4) with
  | none => rfl
  | some v =>
    show pMid st (B + E) v.1 (B + v.2) = (pMid (at0 B st) E v.1 v.2).map (shW B)
    unfold pMid
    rw [pL_sh (f := pIn (at0 B st) E) (pIn_sh st B E)]
    cases pL (pIn (at0 B st) E) 4 v.1 v.2 with
    | none => rfl
    | some w =>
      show ((pTail st (B + E) (B + w.2)).bind fun x => some (w.1.map (sh3 B), B + w.2, x.1, x.2)) = ((pTail (at0 B st) E w.2).bind fun x => some (w.1, w.2, x.1, x.2)).map (shW B)
      rw [pTail_sh]
      cases pTail (at0 B st) E w.2 with
      | none => rfl
      | some x => rfl
set_option maxHeartbeats 400000 in
theorem pTxs_sh (st : Nat → Int32) (B E : Nat) : ∀ n a, pTxs st (B + E) n (B + a) = (pTxs (at0 B st) E n a).map fun w => (w.1.map (shT B), B + w.2)
  | 0, a => rfl
  | n + 1, a => by
    show ((pTx st (B + E) (B + a)).bind fun w => (pTxs st (B + E) n w.2.2.2).bind fun L => some ((B + a, w.1, w.2.1, w.2.2.1, w.2.2.2) :: L.1, L.2)) = ((pTx (at0 B st) E a).bind fun w => (pTxs (at0 B st) E n w.2.2.2).bind fun L => some ((a, w.1, w.2.1, w.2.2.1, w.2.2.2) :: L.1, L.2)).map fun w => (w.1.map (shT B), B + w.2)
    rw [pTx_sh]
    cases pTx (at0 B st) E a with
    | none => rfl
    | some w =>
      show ((pTxs st (B + E) n (B + w.2.2.2)).bind fun L => some ((B + a, w.1.map (sh3 B), B + w.2.1, w.2.2.1.map (sh3 B), B + w.2.2.2) :: L.1, L.2)) = ((pTxs (at0 B st) E n w.2.2.2).bind fun L => some ((a, w.1, w.2.1, w.2.2.1, w.2.2.2) :: L.1, L.2)).map fun w => (w.1.map (shT B), B + w.2)
      rw [pTxs_sh st B E n]
      cases pTxs (at0 B st) E n w.2.2.2 with
      | none => rfl
      | some L => rfl
set_option maxHeartbeats 400000 in
theorem cnt_c {g p : Nat → Int32} {E : Nat} (h : ∀ i, i < E → g i = p i) (a : Nat) : cnt g E a = cnt p E a := by
  unfold cnt
  by_cases c0 : E ≤ a
  · rw [if_pos c0, if_pos c0]
  rw [if_neg c0, if_neg c0, h a (by omega)]
  by_cases c1 : By (p a) < 253
  · rw [if_pos c1, if_pos c1]
  rw [if_neg c1, if_neg c1]
  by_cases c2 : By (p a) = 253
  · rw [if_pos c2, if_pos c2]
    by_cases c3 : a + 3 ≤ E
    · rw [leP_c (p := g) (p' := p) (fun j hj => h _ (by omega))]
    · rw [if_neg (fun z => c3 z.1), if_neg (fun z => c3 z.1)]
  rw [if_neg c2, if_neg c2]
  by_cases c4 : By (p a) = 254
  · rw [if_pos c4, if_pos c4]
    by_cases c3 : a + 5 ≤ E
    · rw [leP_c (p := g) (p' := p) (fun j hj => h _ (by omega))]
    · rw [if_neg (fun z => c3 z.1), if_neg (fun z => c3 z.1)]
  · rw [if_neg c4, if_neg c4]
set_option maxHeartbeats 400000 in
theorem pBl_c {g p : Nat → Int32} {E : Nat} (h : ∀ i, i < E → g i = p i) : pBl g E = pBl p E := by
  have e0 : cnt g E = cnt p E := funext (cnt_c h)
  have e1 : pIn g E = pIn p E := by unfold pIn; rw [e0]
  have e2 : pOut g E = pOut p E := by unfold pOut; rw [e0]
  have e3 : pTx g E = pTx p E := by
    funext a
    unfold pTx pMid pTail
    rw [e0, e1, e2]
  have e4 : ∀ n a, pTxs g E n a = pTxs p E n a := by
    intro n
    induction n with
    | zero => intro a; rfl
    | succ n ih =>
      intro a
      show ((pTx g E a).bind fun w => (pTxs g E n w.2.2.2).bind fun L => some ((a, w.1, w.2.1, w.2.2.1, w.2.2.2) :: L.1, L.2)) = ((pTx p E a).bind fun w => (pTxs p E n w.2.2.2).bind fun L => some ((a, w.1, w.2.1, w.2.2.1, w.2.2.2) :: L.1, L.2))
      rw [e3]
      congr 1
      funext w
      rw [ih]
  unfold pBl
  rw [e0]
  congr 1
  congr 1
  funext v
  rw [e4]
set_option maxHeartbeats 400000 in
theorem txV_c {g p : Nat → Int32} {E a : Nat} (h : ∀ i, i < E → g i = p i) {TL : List Tx5} (hb : txB E TL a) : TL.map (txV g) = TL.map (txV p) := by
  refine List.map_congr_left fun T hT => ?_
  obtain ⟨b1, b2, b3, b4, b5, b6⟩ := txB_at TL a hb T hT
  unfold txV
  have e1 : T.2.1.map (inV g) = T.2.1.map (inV p) := List.map_congr_left fun x hx => by
    have := b1 x hx
    unfold inV
    rw [bl_c (p := g) (p' := p) 36 x.1 x.1 (fun i hi => h _ (by omega)), bl_c (p := g) (p' := p) x.2.2 x.2.1 x.2.1 (fun i hi => h _ (by omega)), leP_c (p := g) (p' := p) (fun j hj => h _ (by omega))]
  have e2 : T.2.2.2.1.map (outV g) = T.2.2.2.1.map (outV p) := List.map_congr_left fun x hx => by
    have := b2 x hx
    unfold outV
    rw [bl_c (p := g) (p' := p) x.2.2 x.2.1 x.2.1 (fun i hi => h _ (by omega)), leP_c (p := g) (p' := p) (fun j hj => h _ (by omega))]
  rw [e1, e2, leP_c (p := g) (p' := p) (fun j hj => h _ (by omega))]
