section MNA
variable {p : Program} {l : Launch} {e : Env} {R : Room} {s : State} {m : MethodId} {args : Array Value} {below : List Frame} {meth : Method} {c : Code} {H : Heap} {locs : List Loc} {cells slots : Nat} {Q : State → Prop}
/-- the outer row behind i of its inner ones -/
def ml_cell (cA : ClassId) (n h : Nat) (i : Nat) : Cell := arrV cA n (fun j => if j < i then .ref (h + 1 + j) else .null)
/-- behind i inner rows of k longs -/
def ml_fl (cA cI : ClassId) (n k h : Nat) (T : State) : Nat → State
  | 0 => T.pushCell (ml_cell cA n h 0)
  | i + 1 => ((ml_fl cA cI n k h T i).pushCell (arrV cI k (fun _ => .long 0))).setCell h (ml_cell cA n h (i + 1))
theorem ml_next (cA : ClassId) (n h i : Nat) : (ml_cell cA n h i).setSlot i (.ref (h + 1 + i)) = ml_cell cA n h (i + 1) := by
  unfold ml_cell
  rw [arrV_store]
  refine congrArg (arrV cA n) (funext fun j => ?_)
  by_cases e1 : j = i
  · subst e1
    simp [updV]
  · by_cases e2 : j < i
    · simp [updV, e1, e2, Nat.lt_succ_of_lt e2]
    · simp [updV, e1, e2, show ¬ j < i + 1 by omega]
theorem ml_size (cA cI : ClassId) (n k h : Nat) (T : State) : ∀ i, (ml_fl cA cI n k h T i).heap.size = T.heap.size + 1 + i
  | 0 => by simp [ml_fl, size_pushCell]
  | i + 1 => by
    show (State.setCell _ _ _).heap.size = _
    rw [size_setCell, size_pushCell, ml_size cA cI n k h T i]
    omega
theorem ml_vm (cA cI : ClassId) (n k h : Nat) (T : State) : ∀ i, (ml_fl cA cI n k h T i).vm = T.vm
  | 0 => rfl
  | i + 1 => ml_vm cA cI n k h T i
theorem ml_used (cA cI : ClassId) (n k h : Nat) (T : State) : ∀ i, (ml_fl cA cI n k h T i).slotsUsed = T.slotsUsed + n + i * k
  | 0 => by
    show T.slotsUsed + (ml_cell cA n h 0).slots.size = _
    rw [ml_cell, arrV_size]
    omega
  | i + 1 => by
    show (ml_fl cA cI n k h T i).slotsUsed + (arrV cI k (fun _ => .long 0)).slots.size = _
    rw [ml_used cA cI n k h T i, arrV_size, Nat.succ_mul]
    omega
theorem ml_at (cA cI : ClassId) (n k h : Nat) (T : State) (hT : T.heap.size = h) : ∀ i, (ml_fl cA cI n k h T i).heap[h]? = some (ml_cell cA n h i)
  | 0 => by
    show (T.heap.push _)[h]? = _
    rw [← hT]
    simp
  | i + 1 => by
    have h1 := ml_size cA cI n k h T i
    have h2 : h < ((ml_fl cA cI n k h T i).pushCell (arrV cI k (fun _ => .long 0))).heap.size := by
      rw [size_pushCell, h1]
      omega
    exact heapAt_setCell_self (s := (ml_fl cA cI n k h T i).pushCell (arrV cI k (fun _ => .long 0))) (a := h) (ml_cell cA n h (i + 1)) h2
theorem ml_old (cA cI : ClassId) (n k h : Nat) (T : State) (hT : T.heap.size = h) {q : Nat} (hq : q < h) : ∀ i, (ml_fl cA cI n k h T i).heap[q]? = T.heap[q]?
  | 0 => by
    show (T.heap.push _)[q]? = _
    rw [Array.getElem?_push, if_neg (by omega)]
  | i + 1 => by
    have h1 := ml_size cA cI n k h T i
    refine (heapAt_setCell_ne (s := (ml_fl cA cI n k h T i).pushCell (arrV cI k (fun _ => .long 0))) (a := h) (b := q) (ml_cell cA n h (i + 1)) (Nat.ne_of_gt hq)).trans ?_
    show ((ml_fl cA cI n k h T i).heap.push _)[q]? = _
    rw [Array.getElem?_push, if_neg (by rw [h1]; omega)]
    exact ml_old cA cI n k h T hT hq i
theorem ml_in (cA cI : ClassId) (n k h : Nat) (T : State) (hT : T.heap.size = h) {j : Nat} : ∀ i, j < i → (ml_fl cA cI n k h T i).heap[h + 1 + j]? = some (arrV cI k (fun _ => .long 0))
  | 0, hj => absurd hj (Nat.not_lt_zero _)
  | i + 1, hj => by
    have h1 := ml_size cA cI n k h T i
    refine (heapAt_setCell_ne (s := (ml_fl cA cI n k h T i).pushCell (arrV cI k (fun _ => .long 0))) (a := h) (b := h + 1 + j) (ml_cell cA n h (i + 1)) (show (h : Nat) ≠ h + 1 + j from (by omega))).trans ?_
    show ((ml_fl cA cI n k h T i).heap.push _)[h + 1 + j]? = _
    by_cases e1 : j = i
    · subst e1
      rw [Array.getElem?_push, if_pos (by rw [h1]; omega)]
    · rw [Array.getElem?_push, if_neg (by rw [h1]; omega)]
      exact ml_in cA cI n k h T hT i (by omega)
theorem ml_stand (cA cI : ClassId) (n k h : Nat) {T : State} (hT : T.heap.size = h) (hs : s.heap.size ≤ h) (X : Stand p l e R s m args below meth c T locs cells slots) : ∀ i, Stand p l e R s m args below meth c (ml_fl cA cI n k h T i) locs (cells + 1 + i) (slots + n + i * k)
  | 0 => by
    have h1 := X.pushed (ml_cell cA n h 0)
    rw [show (ml_cell cA n h 0).slots.size = n by rw [ml_cell, arrV_size]] at h1
    have e2 : slots + n + 0 * k = slots + n := by rw [Nat.zero_mul]; rfl
    rw [e2]
    exact h1
  | i + 1 => by
    have h1 := (ml_stand cA cI n k h hT hs X i).pushed (arrV cI k (fun _ => .long 0))
    rw [arrV_size] at h1
    have hc : ((ml_fl cA cI n k h T i).pushCell (arrV cI k (fun _ => .long 0))).heap[h]? = some (ml_cell cA n h i) := by
      show ((ml_fl cA cI n k h T i).heap.push _)[h]? = _
      rw [Array.getElem?_push, if_neg (by rw [ml_size]; omega)]
      exact ml_at cA cI n k h T hT i
    have h2 := h1.stored hc i (.ref (h + 1 + i))
    rw [ml_next] at h2
    have h3 := Stand.forget h2 (fun q hq => by
      rw [List.mem_singleton] at hq
      rw [hq]
      exact hs)
    have e1 : cells + 1 + i + 1 = cells + 1 + (i + 1) := by omega
    have e2 : slots + n + i * k + k = slots + n + (i + 1) * k := by rw [Nat.succ_mul]; omega
    rw [e1, e2] at h3
    exact h3
theorem ml_na {E : CtlPost} {d : Bool} {acts : List Action} {S : State} {c comp : ClassId} {k : Class} {type : FieldType} {len : Nat} {init : Value} (hk : S.vm.classes[c]? = some k) (hkind : k.kind = .array comp type) (hlimit : ¬ len > e.platform.arrayLengthLimit) (hheap : ¬ len * componentBytes type > e.platform.maxHeapBytes) (hfit : fits type init = true) {Qa : Addr → Pre} (h1 : S.heap.size < e.platform.maxCells) (h2 : S.slotsUsed + len ≤ e.platform.maxSlots) (hq : ∀ d' acts', Qa S.heap.size d' acts' (S.pushCell { cls := c, slots := Array.replicate len init, vm := .none })) : wp (Jvm.newArray c len init) Qa E e d acts S := by
  have hfits : ∀ i v, (Array.replicate len init)[i]? = some v → S.fitsSlot c .none i v = true := by
    intro i v hv
    simp only [Array.getElem?_replicate] at hv
    split at hv
    · cases hv; simp [State.fitsSlot, State.slotType?, hk, hkind, hfit]
    · cases hv
  simp only [Jvm.newArray, Jvm.arrayFits, wp_bind', W.ask, W.ite, hlimit, if_false, wp_pure', W.theClass, hk, hkind, hheap, W.alloc, W.stop, Option.some.injEq, exists_eq_left', Array.size_replicate]
  rw [if_neg (by omega)]
  exact ⟨h1, h2, hfits, hq _ _⟩
theorem ml_new (cA : ClassId) (n h : Nat) : ({ cls := cA, slots := Array.replicate n .null, vm := .none } : Cell) = ml_cell cA n h 0 := by
  rw [arrV_new]
  unfold ml_cell
  simp
theorem ml_top (cA cI : ClassId) (n k h : Nat) (T : State) (g : JFrame) : ∀ i, ml_fl cA cI n k h (T.setTop g) i = (ml_fl cA cI n k h T i).setTop g
  | 0 => by
    show (T.setTop g).pushCell _ = _
    rw [State.pushCell_setTop]
    rfl
  | i + 1 => by
    show ((ml_fl cA cI n k h (T.setTop g) i).pushCell _).setCell h _ = _
    rw [ml_top cA cI n k h T g i, State.pushCell_setTop, State.setCell_setTop]
    rfl
theorem ml_wp {E : CtlPost} {d : Bool} {acts : List Action} {cA cI cj : ClassId} {kA kI : Class} {n k : Int32} {S : State} (hkA : S.vm.classes[cA]? = some kA) (hA : kA.kind = .array cI (.array .long)) (hkI : S.vm.classes[cI]? = some kI) (hI : kI.kind = .array cj .long) (hn : ¬ n < 0) (hk : ¬ k < 0) (hl1 : ¬ n.toNatClampNeg > e.platform.arrayLengthLimit) (hb1 : ¬ n.toNatClampNeg * componentBytes (.array .long) > e.platform.maxHeapBytes) (hl : ¬ k.toNatClampNeg > e.platform.arrayLengthLimit) (hb : ¬ k.toNatClampNeg * componentBytes .long > e.platform.maxHeapBytes) (hc : S.heap.size + (1 + n.toNatClampNeg) ≤ e.platform.maxCells) (hs : S.slotsUsed + (n.toNatClampNeg + n.toNatClampNeg * k.toNatClampNeg) ≤ e.platform.maxSlots) {Qa : Addr → Pre} (hq : ∀ d' acts', Qa S.heap.size d' acts' (ml_fl cA cI n.toNatClampNeg k.toNatClampNeg S.heap.size S n.toNatClampNeg)) : wp (Op.multianewarray.make cA [n, k]) Qa E e d acts S := by
  have hfind : ([k].find? (· < 0)) = none := by simp [hk]
  rw [Op.multianewarray.make]
  simp only [wp_bind', W.ite, hn, if_false, wp_pure', W.theClass, hkA, hA, Option.some.injEq, exists_eq_left']
  refine ml_na hkA hA hl1 hb1 rfl (by omega) (by omega) ?_
  intro d' acts'
  simp only [hfind]
  rw [ite_self, wp_bind', Std.Legacy.Range.forIn_eq_forIn_range']
  have hsz : ([:n.toNatClampNeg] : Std.Legacy.Range).size = n.toNatClampNeg := by simp [Std.Legacy.Range.size]
  rw [hsz, ml_new cA n.toNatClampNeg S.heap.size]
  show wp (forIn (List.range' 0 n.toNatClampNeg 1) PUnit.unit _) _ E e d' acts' _
  refine wp_forIn_inv (fun rest s' => ∃ i, i ≤ n.toNatClampNeg ∧ rest = List.range' i (n.toNatClampNeg - i) ∧ s' = ml_fl cA cI n.toNatClampNeg k.toNatClampNeg S.heap.size S i) _ _ ⟨0, Nat.zero_le _, rfl, rfl⟩ ?_ ?_
  · rintro x rest s' d2 acts2 Q' ⟨i, hi, hr, rfl⟩ hnext
    have hlt : i < n.toNatClampNeg := by
      rcases Nat.lt_or_ge i n.toNatClampNeg with h | h
      · exact h
      · rw [show n.toNatClampNeg - i = 0 from by omega] at hr; simp at hr
    obtain ⟨rfl, hrest⟩ : x = i ∧ rest = List.range' (i + 1) (n.toNatClampNeg - (i + 1)) := by
      rw [show n.toNatClampNeg - i = (n.toNatClampNeg - (i + 1)) + 1 from by omega, List.range'_succ] at hr
      exact ⟨(List.cons.inj hr).1, (List.cons.inj hr).2⟩
    have f1 := ml_size cA cI n.toNatClampNeg k.toNatClampNeg S.heap.size S x
    have f2 := ml_at cA cI n.toNatClampNeg k.toNatClampNeg S.heap.size S rfl x
    have f3 := ml_vm cA cI n.toNatClampNeg k.toNatClampNeg S.heap.size S x
    have f4 := ml_used cA cI n.toNatClampNeg k.toNatClampNeg S.heap.size S x
    have hmul : x * k.toNatClampNeg + k.toNatClampNeg ≤ n.toNatClampNeg * k.toNatClampNeg := by
      have := Nat.mul_le_mul_right k.toNatClampNeg (show x + 1 ≤ n.toNatClampNeg from hlt)
      rw [Nat.succ_mul] at this; exact this
    simp only [wp_bind']
    rw [Op.multianewarray.make]
    simp only [wp_bind', W.ite, hk, if_false, wp_pure', W.theClass, f3, hkI, hI, Option.some.injEq, exists_eq_left']
    refine ml_na (k := kI) (by rw [f3]; exact hkI) hI hl hb rfl (by rw [f1]; omega) (by rw [f4]; omega) ?_
    intro d3 acts3
    simp only [wp_bind', W.writeLoc, wp_pure']
    have hcell : ((ml_fl cA cI n.toNatClampNeg k.toNatClampNeg S.heap.size S x).pushCell { cls := cI, slots := Array.replicate k.toNatClampNeg (defaultValue .long), vm := .none }).heap[S.heap.size]? = some (ml_cell cA n.toNatClampNeg S.heap.size x) := by
      show ((ml_fl cA cI n.toNatClampNeg k.toNatClampNeg S.heap.size S x).heap.push _)[S.heap.size]? = _
      rw [Array.getElem?_push, if_neg (by rw [f1]; omega)]
      exact f2
    refine ⟨ml_cell cA n.toNatClampNeg S.heap.size x, hcell, (fun h => by cases h), by rw [ml_cell, arrV_size]; exact hlt, ?_, hnext _ _ _ ⟨x + 1, hlt, hrest, ?_⟩⟩
    · show State.fitsSlot _ cA .none x _ = true
      simp [State.fitsSlot, State.slotType?, f3, hkA, hA, fits]
    · rw [f1, ml_next]
      show _ = State.setCell (State.pushCell _ _) _ _
      rw [← arrV_new]
      rfl
  · rintro s' d2 acts2 ⟨i, hi, hr, rfl⟩
    have hiN : i = n.toNatClampNeg := by
      rcases Nat.lt_or_ge i n.toNatClampNeg with h | h
      · rw [show n.toNatClampNeg - i = (n.toNatClampNeg - (i + 1)) + 1 from by omega, List.range'_succ] at hr; cases hr
      · omega
    subst hiN
    simp only [wp_pure']
    exact hq _ _
end MNA
