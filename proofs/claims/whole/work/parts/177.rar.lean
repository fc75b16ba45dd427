-- the reference's machine: arithmetic
set_option maxHeartbeats 400000 in
theorem nI_sb {a b : Nat} (h : b ≤ a) : nI a - nI b = nI (a - b) := by
  have := nI_add (a - b) b
  rw [show a - b + b = a from by omega] at this
  rw [← this]
  exact Int32.add_sub_cancel _ _
/-- fields that the machine may change: 8, 9, 10, 11 -/
def zf (z z' : Nat → Int32) : Prop := ∀ j, j ≠ 8 → j ≠ 9 → j ≠ 10 → j ≠ 11 → z' j = z j
set_option maxHeartbeats 400000 in
theorem zf_r (z : Nat → Int32) : zf z z := fun _ _ _ _ _ => rfl
set_option maxHeartbeats 400000 in
theorem zf_t {a b c : Nat → Int32} (h : zf a b) (h' : zf b c) : zf a c := fun j h1 h2 h3 h4 => (h' j h1 h2 h3 h4).trans (h j h1 h2 h3 h4)
set_option maxHeartbeats 400000 in
theorem zf_9 {z : Nat → Int32} (x : Int32) : zf z (upd z 9 x) := fun j _ h _ _ => pk_un h
set_option maxHeartbeats 400000 in
theorem zf_10 {z : Nat → Int32} (x : Int32) : zf z (upd z 10 x) := fun j _ _ h _ => pk_un h
set_option maxHeartbeats 400000 in
theorem zf_11 {z : Nat → Int32} (x : Int32) : zf z (upd z 11 x) := fun j _ _ _ h => pk_un h
/-- the machine's state in the reference -/
def rM (z th sz : Nat → Int32) (S A : Stk) (ops : Nat) : Prop := (z 9 = nI S.length ∧ z 10 = nI A.length ∧ z 11 = nI ops) ∧ stU th sz 0 S ∧ stA th sz A ∧ ftB th ∧ S.length + A.length ≤ 202 ∧ ops ≤ 201
set_option maxHeartbeats 400000 in
theorem rM_w {z th sz z' th' sz' : Nat → Int32} {S0 S A : Stk} {ops : Nat} {w : List Int32} (h : rM z th sz S0 A ops) (hS : stU th sz 0 S) (hl : S.length + 1 + A.length ≤ 202) (hw : wS th sz S.length w th' sz') (h9 : z' 9 = nI (S.length + 1)) (h10 : z' 10 = z 10) (h11 : z' 11 = z 11) : rM z' th' sz' (w :: S) A ops := by
  obtain ⟨⟨a1, a2, a3⟩, a4, a5, a6, a7, a8⟩ := h
  obtain ⟨w1, w2, w3, w4⟩ := hw
  refine ⟨⟨h9, by rw [h10]; exact a2, by rw [h11]; exact a3⟩, ⟨by rw [Nat.zero_add]; exact w1, stU_k hS (fun j _ b => w2 j (by omega)) (fun k _ b => w3 k (by omega))⟩, stA_k a5 (by omega) (fun j a b => w2 j (by omega)) (fun k a b => w3 k (by omega)), w4, hl, a8⟩
set_option maxHeartbeats 400000 in
/-- the stack is cut -/
theorem rM_d {z th sz z' : Nat → Int32} {S0 S A : Stk} {ops : Nat} (h : rM z th sz S0 A ops) (hS : stU th sz 0 S) (hl : S.length + A.length ≤ 202) (h9 : z' 9 = nI S.length) (h10 : z' 10 = z 10) (h11 : z' 11 = z 11) : rM z' th sz S A ops := by
  obtain ⟨⟨a1, a2, a3⟩, a4, a5, a6, a7, a8⟩ := h
  exact ⟨⟨h9, by rw [h10]; exact a2, by rw [h11]; exact a3⟩, hS, a5, a6, hl, a8⟩
def opQ (W : Option (Stk × Stk × Nat)) (z0 : Nat → Int32) (b : Int32) (z' th' sz' : Nat → Int32) : Prop := zf z0 z' ∧ ftB th' ∧ ((W = none ∧ b = 0) ∨ ∃ S' A' n', W = some (S', A', n') ∧ b = 1 ∧ rM z' th' sz' S' A' n')
def op4 (W : Option (Stk × Stk × Nat)) (z0 : Nat → Int32) (x : T4s) : Prop := opQ W z0 x.1 x.2.1 x.2.2.1 x.2.2.2
set_option maxHeartbeats 400000 in
theorem add_I {x y : Int64} {a b : Int} (hx : x.toInt = a) (hy : y.toInt = b) (h : -(2 : Int) ^ 62 < a + b ∧ a + b < 2 ^ 62) : (x + y).toInt = a + b := by
  rw [Int64.toInt_add, hx, hy, Int.bmod_eq_of_le (by omega) (by omega)]
set_option maxHeartbeats 400000 in
theorem sub_I {x y : Int64} {a b : Int} (hx : x.toInt = a) (hy : y.toInt = b) (h : -(2 : Int) ^ 62 < a - b ∧ a - b < 2 ^ 62) : (x - y).toInt = a - b := by
  rw [Int64.toInt_sub, hx, hy, Int.bmod_eq_of_le (by omega) (by omega)]
set_option maxHeartbeats 400000 in
theorem neg_I {x : Int64} {a : Int} (hx : x.toInt = a) (h : -(2 : Int) ^ 62 < a ∧ a < 2 ^ 62) : (-x).toInt = -a := by
  rw [Int64.toInt_neg, hx, Int.bmod_eq_of_le (by omega) (by omega)]
/-- ops 139 to 165 -/
def arS (o : Nat) (S A : Stk) (ops : Nat) : Option (Stk × Stk × Nat) :=
  if o ≤ 146 then (match S with | x :: S => if isNu x then (ar1 o (numL x)).map fun w => (w :: S, A, ops) else none | _ => none)
  else if o ≤ 164 then (match S with | y :: x :: S => if isNu x && isNu y then (ar2 o (numL x) (numL y)).map fun w => (w ++ S, A, ops) else none | _ => none)
  else (match S with | c :: b :: a :: S => if isNu a && isNu b && isNu c then some (bT (decide (numL b ≤ numL a ∧ numL a < numL c)) :: S, A, ops) else none | _ => none)
set_option maxHeartbeats 400000 in
theorem l_ar584 (fu : Nat) (hfu : 10 ≤ fu) {z th sz z2 : Nat → Int32} {S0 S A : Stk} {ops : Nat} (h : rM z th sz S0 A ops) (hS : stU th sz 0 S) (hl : S.length + 1 + A.length ≤ 202) (hz : z2 = upd z 9 (nI S.length)) {y : Int64} {v : Int} (hy : y.toInt = v) (hv : v.natAbs < 2 ^ 40) {L : List Int32} (hL : L = nb v) : ok (xb_M_isArithmetic_584 fu y z2 th sz) (op4 (some (L :: S, A, ops)) z) := by
  subst hL
  unfold xb_M_isArithmetic_584
  subst hz
  have ht := h.2.2.2.1
  refine ok_bd3 (v_pushN fu hfu hy hv (d := S.length) (by omega) pk_us ht) (fun f1 f2 f3 q => ok_some ?_)
  obtain ⟨q1, q2⟩ := q
  replace q1 : f1 = upd (upd z 9 (nI S.length)) 9 (nI (S.length + 1)) := q1
  replace q2 : wS th sz S.length (nb v) f2 f3 := q2
  refine ⟨?_, q2.2.2.2, Or.inr ⟨_, _, _, rfl, rfl, rM_w h hS hl q2 ?_ ?_ ?_⟩⟩
  · show zf z f1
    rw [q1]
    exact zf_t (zf_9 _) (zf_9 _)
  · show f1 9 = _
    rw [q1, pk_us]
  · show f1 10 = _
    rw [q1, pk_un (by decide), pk_un (by decide)]
  · show f1 11 = _
    rw [q1, pk_un (by decide), pk_un (by decide)]
set_option maxHeartbeats 400000 in
theorem bT_t {P : Prop} [Decidable P] (h : P) : bT (decide P) = nb 1 := by rw [decide_eq_true h]; exact (nb_bT true).symm
set_option maxHeartbeats 400000 in
theorem bT_f {P : Prop} [Decidable P] (h : ¬ P) : bT (decide P) = nb 0 := by rw [decide_eq_false h]; exact (nb_bT false).symm
set_option maxHeartbeats 400000 in
theorem lg_eq {x y : Int64} {a b : Int} (hx : x.toInt = a) (hy : y.toInt = b) : lg_cmp x y = 0 ↔ a = b := by rw [(lg_c x y).1, hx, hy]
set_option maxHeartbeats 400000 in
theorem lg_ge {x y : Int64} {a b : Int} (hx : x.toInt = a) (hy : y.toInt = b) : 0 ≤ lg_cmp x y ↔ b ≤ a := by rw [(lg_c x y).2, hx, hy]
set_option maxHeartbeats 400000 in
theorem lg_lt' {x y : Int64} {a b : Int} (hx : x.toInt = a) (hy : y.toInt = b) : lg_cmp x y < 0 ↔ a < b := by rw [lg_lt, hx, hy]
set_option maxHeartbeats 400000 in
theorem lg_le' {x y : Int64} {a b : Int} (hx : x.toInt = a) (hy : y.toInt = b) : lg_cmp x y ≤ 0 ↔ a ≤ b := by rw [lg_le, hx, hy]
set_option maxHeartbeats 400000 in
theorem lg_gt' {x y : Int64} {a b : Int} (hx : x.toInt = a) (hy : y.toInt = b) : 0 < lg_cmp x y ↔ b < a := by rw [lg_gt, hx, hy]
set_option maxHeartbeats 400000 in
theorem z64 : (0 : Int64).toInt = 0 := rfl
set_option maxHeartbeats 400000 in
/-- where both ways push a truth -/
theorem ok_tr {c P : Prop} {inst : Decidable c} {instP : Decidable P} {a b : Option T4s} {Q : List Int32 → T4s → Prop} (hc : c ↔ P) (ha : P → ok a (Q (nb 1))) (hb : ¬ P → ok b (Q (nb 0))) : ok (@ite _ c inst a b) (Q (bT (@decide P instP))) := by
  by_cases q : P
  · rw [bT_t q]
    exact ok_t (hc.mpr q) (ha q)
  · rw [bT_f q]
    exact ok_f (fun w => q (hc.mp w)) (hb q)
set_option maxHeartbeats 400000 in
theorem ok_tr' {c P : Prop} {inst : Decidable c} {instP : Decidable P} {a b : Option T4s} {Q : List Int32 → T4s → Prop} (hc : c ↔ ¬ P) (ha : ¬ P → ok a (Q (nb 0))) (hb : P → ok b (Q (nb 1))) : ok (@ite _ c inst a b) (Q (bT (@decide P instP))) := by
  by_cases q : P
  · rw [bT_t q]
    exact ok_f (fun w => hc.mp w q) (hb q)
  · rw [bT_f q]
    exact ok_t (hc.mpr q) (ha q)

set_option maxHeartbeats 400000 in
theorem l_ar143a (fu : Nat) (hfu : 10 ≤ fu) {z th sz : Nat → Int32} {x : List Int32} {S A : Stk} {ops o : Nat} (h : rM z th sz (x :: S) A ops) (hx : isNu x = true) (ho : 139 ≤ o ∧ o ≤ 146 ∧ o ≠ 141 ∧ o ≠ 142) {x3 x5 y0 : Int64} (h3 : x3.toInt = numL x) : ok (xb_M_isArithmetic_143 fu (nI o) (nI 1) x3 x5 y0 z th sz) (op4 (arS o (x :: S) A ops) z) := by
  unfold xb_M_isArithmetic_143
  have hl : S.length + 1 + A.length ≤ 202 := h.2.2.2.2.1
  have h9 : z 9 = nI (S.length + 1) := h.1.1
  have hb := numL_b (L := x) (of_decide_eq_true hx)
  have hS := h.2.1.2
  rw [h9, nI_sb (by omega), Nat.add_sub_cancel]
  refine ok_bnd (ok_bnd ?_)
  have PE : ∀ (y : Int64) (v : Int), y.toInt = v → v.natAbs < 2 ^ 40 → ∀ L, L = nb v → ok (xb_M_isArithmetic_584 fu y (upd z 9 (nI S.length)) th sz) (op4 (some (L :: S, A, ops)) z) := fun y v hy hv L hL => l_ar584 fu hfu h hS hl rfl hy hv hL
  generalize hn : numL x = a at *
  have eW : arS o (x :: S) A ops = (ar1 o a).map fun w => (w :: S, A, ops) := by
    unfold arS
    rw [if_pos ho.2.1]
    show (if isNu x = true then (ar1 o (numL x)).map fun w => (w :: S, A, ops) else none) = _
    rw [if_pos hx, hn]
  rw [eW]
  have cs : o = 139 ∨ o = 140 ∨ o = 143 ∨ o = 144 ∨ o = 145 ∨ o = 146 := by omega
  rcases cs with rfl | rfl | rfl | rfl | rfl | rfl
  · exact ok_t (by decide) (ok_bnd (PE _ (a + 1) (add_I h3 (by decide) (by omega)) (by omega) _ rfl))
  · iterate 1 refine ok_f (by decide) ?_
    exact ok_t (by decide) (ok_bnd (PE _ (a - 1) (sub_I h3 (by decide) (by omega)) (by omega) _ rfl))
  · iterate 4 refine ok_f (by decide) ?_
    exact ok_t (by decide) (ok_bnd (PE _ (-a) (neg_I h3 (by omega)) (by omega) _ rfl))
  · iterate 5 refine ok_f (by decide) ?_
    refine ok_t (by decide) ?_
    show ok _ (op4 (some (nb (if a < 0 then -a else a) :: S, A, ops)) z)
    unfold xb_M_isArithmetic_311
    by_cases q : a < 0
    · rw [if_pos q]
      exact ok_f (fun w => by have := (lg_ge h3 z64).mp w; omega) (PE _ (-a) (neg_I h3 (by omega)) (by omega) _ rfl)
    · rw [if_neg q]
      exact ok_t ((lg_ge h3 z64).mpr (by omega)) (PE _ a h3 (by omega) _ rfl)
  · iterate 6 refine ok_f (by decide) ?_
    refine ok_t (by decide) ?_
    unfold xb_M_isArithmetic_327
    exact ok_tr (Q := fun L => op4 (some (L :: S, A, ops)) z) (lg_eq h3 z64) (fun _ => PE 1 1 rfl (by decide) _ rfl) (fun _ => PE 0 0 rfl (by decide) _ rfl)
  · iterate 7 refine ok_f (by decide) ?_
    refine ok_t (by decide) ?_
    unfold xb_M_isArithmetic_343
    exact ok_tr' (Q := fun L => op4 (some (L :: S, A, ops)) z) ((lg_eq h3 z64).trans Decidable.not_not.symm) (fun _ => PE 0 0 rfl (by decide) _ rfl) (fun _ => PE 1 1 rfl (by decide) _ rfl)
set_option maxHeartbeats 400000 in
theorem l_ar143b (fu : Nat) (hfu : 10 ≤ fu) {z th sz : Nat → Int32} {x y : List Int32} {S A : Stk} {ops o : Nat} (h : rM z th sz (y :: x :: S) A ops) (hx : isNu x = true) (hy : isNu y = true) (ho : 147 ≤ o ∧ o ≤ 164 ∧ (o ≤ 148 ∨ 154 ≤ o)) {x3 x5 y0 : Int64} (h3 : x3.toInt = numL x) (h5 : x5.toInt = numL y) : ok (xb_M_isArithmetic_143 fu (nI o) (nI 2) x3 x5 y0 z th sz) (op4 (arS o (y :: x :: S) A ops) z) := by
  unfold xb_M_isArithmetic_143
  have hl : S.length + 2 + A.length ≤ 202 := h.2.2.2.2.1
  have h9 : z 9 = nI (S.length + 2) := h.1.1
  have hb := numL_b (L := x) (of_decide_eq_true hx)
  have hb' := numL_b (L := y) (of_decide_eq_true hy)
  have hS := h.2.1.2.2
  rw [h9, nI_sb (by omega), Nat.add_sub_cancel]
  refine ok_bnd (ok_bnd ?_)
  have PE : ∀ (y : Int64) (v : Int), y.toInt = v → v.natAbs < 2 ^ 40 → ∀ L, L = nb v → ok (xb_M_isArithmetic_584 fu y (upd z 9 (nI S.length)) th sz) (op4 (some (L :: S, A, ops)) z) := fun y v hy hv L hL => l_ar584 fu hfu h hS (by omega) rfl hy hv hL
  generalize hn : numL x = a at *
  generalize hm : numL y = b at *
  have eW : arS o (y :: x :: S) A ops = (ar2 o a b).map fun w => (w ++ S, A, ops) := by
    unfold arS
    rw [if_neg (by omega), if_pos ho.2.1]
    show (if (isNu x && isNu y) = true then (ar2 o (numL x) (numL y)).map fun w => (w ++ S, A, ops) else none) = _
    rw [hx, hy, hn, hm]
    rfl
  rw [eW]
  have cs : o = 147 ∨ o = 148 ∨ o = 154 ∨ o = 155 ∨ o = 156 ∨ o = 157 ∨ o = 158 ∨ o = 159 ∨ o = 160 ∨ o = 161 ∨ o = 162 ∨ o = 163 ∨ o = 164 := by omega
  rcases cs with rfl | rfl | rfl | rfl | rfl | rfl | rfl | rfl | rfl | rfl | rfl | rfl | rfl
  · iterate 8 refine ok_f (by decide) ?_
    exact ok_t (by decide) (ok_bnd (PE _ (a + b) (add_I h3 h5 (by omega)) (by omega) _ rfl))
  · iterate 9 refine ok_f (by decide) ?_
    exact ok_t (by decide) (ok_bnd (PE _ (a - b) (sub_I h3 h5 (by omega)) (by omega) _ rfl))
  · iterate 15 refine ok_f (by decide) ?_
    refine ok_t (by decide) ?_
    unfold xb_M_isArithmetic_383 xb_M_isArithmetic_384
    show ok _ (op4 (some (bT (decide (a ≠ 0 ∧ b ≠ 0)) :: S, A, ops)) z)
    by_cases q : a = 0
    · rw [bT_f (fun w => w.1 q)]
      exact ok_t ((lg_eq h3 z64).mpr q) (PE 0 0 rfl (by decide) _ rfl)
    · refine ok_f (fun w => q ((lg_eq h3 z64).mp w)) ?_
      by_cases r : b = 0
      · rw [bT_f (fun w => w.2 r)]
        exact ok_t ((lg_eq h5 z64).mpr r) (PE 0 0 rfl (by decide) _ rfl)
      · rw [bT_t ⟨q, r⟩]
        exact ok_f (fun w => r ((lg_eq h5 z64).mp w)) (PE 1 1 rfl (by decide) _ rfl)
  · iterate 16 refine ok_f (by decide) ?_
    refine ok_t (by decide) ?_
    unfold xb_M_isArithmetic_402 xb_M_isArithmetic_407
    show ok _ (op4 (some (bT (decide (a ≠ 0 ∨ b ≠ 0)) :: S, A, ops)) z)
    by_cases q : a = 0
    · refine ok_t ((lg_eq h3 z64).mpr q) ?_
      by_cases r : b = 0
      · rw [bT_f (fun w => w.elim (fun e => e q) (fun e => e r))]
        exact ok_t ((lg_eq h5 z64).mpr r) (PE 0 0 rfl (by decide) _ rfl)
      · rw [bT_t (Or.inr r)]
        exact ok_f (fun w => r ((lg_eq h5 z64).mp w)) (PE 1 1 rfl (by decide) _ rfl)
    · rw [bT_t (Or.inl q)]
      exact ok_f (fun w => q ((lg_eq h3 z64).mp w)) (PE 1 1 rfl (by decide) _ rfl)
  · iterate 17 refine ok_f (by decide) ?_
    refine ok_t (by decide) ?_
    unfold xb_M_isArithmetic_424
    exact ok_tr (Q := fun L => op4 (some (L :: S, A, ops)) z) (lg_eq h3 h5) (fun _ => PE 1 1 rfl (by decide) _ rfl) (fun _ => PE 0 0 rfl (by decide) _ rfl)
  · iterate 18 refine ok_f (by decide) ?_
    refine ok_t (by decide) ?_
    have eA : (ar2 157 a b).map (fun w => (w ++ S, A, ops)) = if a = b then some (S, A, ops) else none := by
      show (if a = b then some [] else none).map (fun w : Stk => (w ++ S, A, ops)) = _
      by_cases q : a = b
      · rw [if_pos q, if_pos q]; rfl
      · rw [if_neg q, if_neg q]; rfl
    rw [eA]
    by_cases q : a = b
    · rw [if_pos q]
      exact ok_t ((lg_eq h3 h5).mpr q) (ok_some ⟨zf_9 _, h.2.2.2.1, Or.inr ⟨_, _, _, rfl, rfl, rM_d (z' := upd z 9 (nI S.length)) h hS (by omega) pk_us (pk_un (by decide)) (pk_un (by decide))⟩⟩)
    · rw [if_neg q]
      exact ok_f (fun w => q ((lg_eq h3 h5).mp w)) (ok_some ⟨zf_9 _, h.2.2.2.1, Or.inl ⟨rfl, rfl⟩⟩)
  · iterate 19 refine ok_f (by decide) ?_
    refine ok_t (by decide) ?_
    unfold xb_M_isArithmetic_454
    exact ok_tr' (Q := fun L => op4 (some (L :: S, A, ops)) z) ((lg_eq h3 h5).trans Decidable.not_not.symm) (fun _ => PE 0 0 rfl (by decide) _ rfl) (fun _ => PE 1 1 rfl (by decide) _ rfl)
  · iterate 20 refine ok_f (by decide) ?_
    refine ok_t (by decide) ?_
    unfold xb_M_isArithmetic_471
    exact ok_tr' (Q := fun L => op4 (some (L :: S, A, ops)) z) ((lg_ge h3 h5).trans Int.not_lt.symm) (fun _ => PE 0 0 rfl (by decide) _ rfl) (fun _ => PE 1 1 rfl (by decide) _ rfl)
  · iterate 21 refine ok_f (by decide) ?_
    refine ok_t (by decide) ?_
    unfold xb_M_isArithmetic_488
    exact ok_tr' (Q := fun L => op4 (some (L :: S, A, ops)) z) ((lg_le' h3 h5).trans Int.not_lt.symm) (fun _ => PE 0 0 rfl (by decide) _ rfl) (fun _ => PE 1 1 rfl (by decide) _ rfl)
  · iterate 22 refine ok_f (by decide) ?_
    refine ok_t (by decide) ?_
    unfold xb_M_isArithmetic_505
    exact ok_tr' (Q := fun L => op4 (some (L :: S, A, ops)) z) ((lg_gt' h3 h5).trans Int.not_le.symm) (fun _ => PE 0 0 rfl (by decide) _ rfl) (fun _ => PE 1 1 rfl (by decide) _ rfl)
  · iterate 23 refine ok_f (by decide) ?_
    refine ok_t (by decide) ?_
    unfold xb_M_isArithmetic_522
    exact ok_tr' (Q := fun L => op4 (some (L :: S, A, ops)) z) ((lg_lt' h3 h5).trans Int.not_le.symm) (fun _ => PE 0 0 rfl (by decide) _ rfl) (fun _ => PE 1 1 rfl (by decide) _ rfl)
  · iterate 24 refine ok_f (by decide) ?_
    refine ok_t (by decide) ?_
    show ok _ (op4 (some (nb (if a < b then a else b) :: S, A, ops)) z)
    unfold xb_M_isArithmetic_540
    by_cases q : a < b
    · rw [if_pos q]
      exact ok_f (fun w => by have := (lg_ge h3 h5).mp w; omega) (PE _ a h3 (by omega) _ rfl)
    · rw [if_neg q]
      exact ok_t ((lg_ge h3 h5).mpr (by omega)) (PE _ b h5 (by omega) _ rfl)
  · iterate 25 refine ok_f (by decide) ?_
    refine ok_t (by decide) ?_
    show ok _ (op4 (some (nb (if b < a then a else b) :: S, A, ops)) z)
    unfold xb_M_isArithmetic_558
    by_cases q : b < a
    · rw [if_pos q]
      exact ok_f (fun w => by have := (lg_le' h3 h5).mp w; omega) (PE _ a h3 (by omega) _ rfl)
    · rw [if_neg q]
      exact ok_t ((lg_le' h3 h5).mpr (by omega)) (PE _ b h5 (by omega) _ rfl)
set_option maxHeartbeats 400000 in
theorem l_ar143c (fu : Nat) (hfu : 10 ≤ fu) {z th sz : Nat → Int32} {c b a : List Int32} {S A : Stk} {ops : Nat} (h : rM z th sz (c :: b :: a :: S) A ops) (ha : isNu a = true) (hb : isNu b = true) (hc : isNu c = true) {x3 x5 y0 : Int64} (h3 : x3.toInt = numL a) (h5 : x5.toInt = numL b) (h7 : y0.toInt = numL c) : ok (xb_M_isArithmetic_143 fu (nI 165) (nI 3) x3 x5 y0 z th sz) (op4 (arS 165 (c :: b :: a :: S) A ops) z) := by
  unfold xb_M_isArithmetic_143
  have hl : S.length + 3 + A.length ≤ 202 := h.2.2.2.2.1
  have h9 : z 9 = nI (S.length + 3) := h.1.1
  have hS := h.2.1.2.2.2
  rw [h9, nI_sb (by omega), Nat.add_sub_cancel]
  refine ok_bnd (ok_bnd ?_)
  have PE : ∀ (y : Int64) (v : Int), y.toInt = v → v.natAbs < 2 ^ 40 → ∀ L, L = nb v → ok (xb_M_isArithmetic_584 fu y (upd z 9 (nI S.length)) th sz) (op4 (some (L :: S, A, ops)) z) := fun y v hy hv L hL => l_ar584 fu hfu h hS (by omega) rfl hy hv hL
  have eW : arS 165 (c :: b :: a :: S) A ops = some (bT (decide (numL b ≤ numL a ∧ numL a < numL c)) :: S, A, ops) := by
    show (if (isNu a && isNu b && isNu c) = true then some (bT (decide (numL b ≤ numL a ∧ numL a < numL c)) :: S, A, ops) else none) = _
    rw [ha, hb, hc]
    rfl
  rw [eW]
  iterate 26 refine ok_f (by decide) ?_
  unfold xb_M_isArithmetic_563 xb_M_isArithmetic_581 xb_M_isArithmetic_582
  by_cases q : numL b ≤ numL a
  · refine ok_f (fun w => by have := (lg_lt' h3 h5).mp w; omega) ?_
    by_cases r : numL a < numL c
    · rw [bT_t ⟨q, r⟩]
      exact ok_f (fun w => by have := (lg_ge h3 h7).mp w; omega) (PE 1 1 rfl (by decide) _ rfl)
    · rw [bT_f (fun w => r w.2)]
      exact ok_t ((lg_ge h3 h7).mpr (by omega)) (PE 0 0 rfl (by decide) _ rfl)
  · rw [bT_f (fun w => q w.1)]
    exact ok_t ((lg_lt' h3 h5).mpr (by omega)) (PE 0 0 rfl (by decide) _ rfl)
