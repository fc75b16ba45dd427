theorem arrV_cg (cA : ClassId) {n : Nat} {f g : Nat → Value} (h : ∀ j, j < n → f j = g j) : arrV cA n f = arrV cA n g := by
  unfold arrV
  rw [show (fun j : Fin n => f j.val) = fun j : Fin n => g j.val from funext fun j => h j.val j.isLt]
section MNB
variable {p : Program} {l : Launch} {e : Env} {R : Room} {s : State} {m : MethodId} {args : Array Value} {below : List Frame} {meth : Method} {c : Code} {H : Heap} {locs : List Loc} {cells slots : Nat} {Q : State → Prop}
theorem ml_over {U : State} (h : (Cond.arrayOver (.array .long)).before #[] U = true) : ∃ comp c k, U.vm.findClass "[J" = some comp ∧ U.vm.classes[c]? = some k ∧ k.kind = .array comp (.array .long) ∧ U.vm.findClass "[[J" = some c := by
  simp only [Cond.before, Cond.holds, Cond.value, beq_iff_eq, Option.bind_eq_some_iff, Option.map_eq_some_iff] at h
  obtain ⟨comp, h1, c, h2, k, h3, h4⟩ := h
  obtain ⟨hlt, hp, -⟩ := Array.findIdx?_eq_some_iff_getElem.mp h2
  have hkk : U.vm.classes[c] = k := (Array.getElem?_eq_some_iff.mp h3).2
  rw [hkk] at hp
  cases hkind : k.kind with
  | array component ty =>
    rw [hkind] at h4 hp
    simp at h4 hp
    exact ⟨comp, c, k, h1, h3, by rw [hkind, hp, h4.1], h4.2⟩
  | _ => rw [hkind] at h4; simp at h4
theorem ml_W {cc : ByteArray} (hexec : p.tables.exec = Jvm.exec) (hb : c.code = cc) {own : String} {index : Nat} (hown : s.vm.findClass own = some m.cls) (hclink : (Cond.classLink own index "[[J").before args s = true) (hover : (Cond.arrayOver (.array .long)).before #[] s = true) (harr : (Cond.arrayClass .long).before args s = true) {g : JFrame} (hg : g.method = m) (hdg : decode cc g.pc = .ok (.multianewarray index 2, 4)) {n k : Int32} {N K : Nat} {rest : List Value} (hstack : g.stack = .int k :: .int n :: rest) (hn : ¬ n < 0) (hk : ¬ k < 0) (hN : n.toNatClampNeg = N) (hKn : k.toNatClampNeg = K) (hb1 : N * 4 ≤ 536870912) (hb2 : K * 8 ≤ 536870912) (hcells : cells + (1 + N) ≤ R.cells) (hslots : slots + (N + N * K) ≤ R.slots)
    (kk : ∀ (cA cI : ClassId) (H1 : Heap), s.vm.findClass "[[J" = some cA → s.vm.findClass "[J" = some cI → H1[H.size]? = some (ml_cell cA N H.size N) → (∀ j, j < N → H1[H.size + 1 + j]? = some (arrV cI K (fun _ => .long 0))) → H1.size = H.size + 1 + N → (∀ q, q < H.size → H1[q]? = H[q]?) → W p l e R s m args below meth c H1 locs (cells + 1 + N) (slots + N + N * K) Q { g with pc := g.pc + 4, stack := .ref H.size :: rest }) : W p l e R s m args below meth c H locs cells slots Q g := by
  intro T hT X
  subst hT; subst hb; subst hN; subst hKn
  subst hg
  have hpl : e.platform.magicAccessors = ({} : Platform).magicAccessors := by rw [X.admits.platform]
  obtain ⟨comp, cA, kA, hcomp, hkA, hkindA, hnameA⟩ := ml_over hover
  obtain ⟨comp', kC, cc, hcomp', hkC, hkindC⟩ := Cond.arrayClass_spec harr
  have ecomp : comp' = comp := Option.some.inj (hcomp'.symm.trans hcomp)
  subst ecomp
  obtain ⟨c0, hfc0, hcl⟩ := Cond.classLink_spec hown hclink e.platform hpl
  cases hnameA.symm.trans hfc0
  obtain ⟨hg₁, hwarm₁, hready₁⟩ := State.classEntry (e := e) X.warmed hcl
  generalize T.vm.noted g.method.cls index (.cls cA) = vm₁ at hg₁ hwarm₁ hready₁
  have hal : s.vm.Alike vm₁ := hwarm₁.alike
  obtain ⟨kA₁, hkA₁, heA⟩ := hal.2.2 _ _ hkA
  obtain ⟨kC₁, hkC₁, heC⟩ := hal.2.2 _ _ hkC
  have hkindA₁ : kA₁.kind = .array comp' (.array .long) := by rw [heA]; exact hkindA
  have hkindC₁ : kC₁.kind = .array cc .long := by rw [heC]; exact hkindC
  have X₁ := X.noted hwarm₁
  obtain ⟨hr1, hr2⟩ := X.roomAbove hcells hslots
  have XF := ml_stand cA comp' n.toNatClampNeg k.toNatClampNeg T.heap.size (T := T.setVm vm₁) rfl X₁.same.2.1 X₁ n.toNatClampNeg
  obtain ⟨t, a1, b1⟩ := kk cA comp' _ hnameA hcomp (ml_at cA comp' n.toNatClampNeg k.toNatClampNeg T.heap.size (T.setVm vm₁) rfl n.toNatClampNeg) (fun j hj => ml_in cA comp' n.toNatClampNeg k.toNatClampNeg T.heap.size (T.setVm vm₁) rfl n.toNatClampNeg hj) (ml_size cA comp' n.toNatClampNeg k.toNatClampNeg T.heap.size (T.setVm vm₁) n.toNatClampNeg) (fun q hq => ml_old cA comp' n.toNatClampNeg k.toNatClampNeg T.heap.size (T.setVm vm₁) rfl hq n.toNatClampNeg) _ rfl XF
  refine ⟨t, ?_, b1⟩
  have hl1 : ¬ n.toNatClampNeg > e.platform.arrayLengthLimit := by rw [Launch.admits_arrayLengthLimit X.admits]; omega
  have hh1 : ¬ n.toNatClampNeg * componentBytes (.array .long) > e.platform.maxHeapBytes := by
    rw [Launch.admits_maxHeapBytes X.admits]; show ¬ n.toNatClampNeg * 4 > 536870912; omega
  have hl2 : ¬ k.toNatClampNeg > e.platform.arrayLengthLimit := by rw [Launch.admits_arrayLengthLimit X.admits]; omega
  have hh2 : ¬ k.toNatClampNeg * componentBytes .long > e.platform.maxHeapBytes := by
    rw [Launch.admits_maxHeapBytes X.admits]; show ¬ k.toNatClampNeg * 8 > 536870912; omega
  jvm_step X.here [hexec, hdg]
  simp only [Op.multianewarray.sem, wp_bind', W.resolveClassAt_links (State.method?_setTop g X.here.top) hg₁]
  rw [W.popN, if_neg (by decide)]
  refine ⟨g, State.topJava?_setTop' (s := T.setVm vm₁) g X.here.top, [.int n, .int k], rest, rfl, hstack, ?_⟩
  simp only [List.mapM_cons, List.mapM_nil, wp_bind', wp_pure']
  have eS : ((T.setTop g).setVm vm₁).setTop { g with stack := rest } = (T.setVm vm₁).setTop { g with stack := rest } := by
    show ((T.setVm vm₁).setTop g).setTop _ = _
    rw [State.setTop_setTop]
  rw [eS]
  refine ml_wp (kA := kA₁) (kI := kC₁) (cI := comp') (cj := cc) hkA₁ hkindA₁ hkC₁ hkindC₁ hn hk hl1 hh1 hl2 hh2 (by show T.heap.size + (1 + _) ≤ _; omega) (by show T.slotsUsed + (_ + _) ≤ _; omega) (fun d' acts' => ?_)
  show _
  rw [show ((T.setVm vm₁).setTop { g with stack := rest }).heap.size = T.heap.size from rfl, ml_top]
  simp only [wp_bind', W.mark, W.pushRef, State.topJava?_setTop' _ XF.here.top, Option.some.injEq, exists_eq_left', State.setTop_setTop]
  intro acts
  simp [jvm, XF.here.top]
  exact a1
/-- known references at the places of a list -/
def ml_l (L : List Nat) (j : Nat) : Option Nat := L[j]?
abbrev ml_ws (cy : Nat → ClassId) (q N K : Nat) : va_W := (q, .inl (cy 5, N, .inr (.inr (.inr (.inr (ml_l ((List.range N).map fun j => q + 1 + j))))))) :: (List.range N).map fun j => (q + 1 + j, .inl (cy 2, K, .inr (.inl (fun _ => 0))))
theorem q_mna {cc : ByteArray} {pc : Nat} {ls : Array Slot} {rest : List Value} {D : va_G} {cy : Nat → ClassId} {A : Nat → Prop} {ws : va_W} {own : String} {index : Nat} {n k : Int32} {N K : Nat} (hx : p.tables.exec = Jvm.exec) (hb : c.code = cc) (hown : s.vm.findClass own = some m.cls) (hclink : (Cond.classLink own index "[[J").before args s = true) (hover : (Cond.arrayOver (.array .long)).before #[] s = true) (harr : (Cond.arrayClass .long).before args s = true) (hK : va_K D classes (tyl cy) s) (hP : va_P D classes ws H) (hD : va_D A ws) (hS : va_S A s.heap H locs) (hA : ∀ q, s.heap.size ≤ q → A q) (hn : ¬ n < 0) (hk : ¬ k < 0) (hN : n.toNatClampNeg = N) (hKn : k.toNatClampNeg = K) (hb1 : N * 4 ≤ 536870912) (hb2 : K * 8 ≤ 536870912) (hcells : cells + (1 + N) ≤ R.cells) (hslots : slots + (N + N * K) ≤ R.slots) (hdg : decode cc pc = .ok (.multianewarray index 2, 4))
    (kk : ∀ (q : Nat) (H1 : Heap), va_P D classes (ws ++ ml_ws cy q N K) H1 → va_D A (ws ++ ml_ws cy q N K) → va_S A s.heap H1 locs → W p l e R s m args below meth c H1 locs (cells + 1 + N) (slots + N + N * K) Q (F0 m (pc + 4) ls (.ref q :: rest))) : W p l e R s m args below meth c H locs cells slots Q (F0 m pc ls (.int k :: .int n :: rest)) := by
  refine ml_W hx hb hown hclink hover harr rfl hdg rfl hn hk hN hKn hb1 hb2 hcells hslots (fun cA cI H1 f1 f2 e1 e2 z1 o1 => ?_)
  have c5 : cA = cy 5 := Option.some.inj (f1.symm.trans (hK.2 5 (cy 5, .array .long) rfl).2)
  have c2 : cI = cy 2 := Option.some.inj (f2.symm.trans (hK.2 2 (cy 2, .long) rfl).2)
  subst c5
  subst c2
  have hold : ∀ (i : Nat) (x : Nat × va_E), ws[i]? = some x → H1[x.1]? = H[x.1]? := fun i x hx => o1 x.1 ((hP i x hx).lt)
  have hnew : ∀ (i : Nat) (x : Nat × va_E), (ml_ws cy H.size N K)[i]? = some x → x.1 = H.size + i ∧ va_at D classes x H1 := by
    intro i x hx
    cases i with
    | zero =>
      cases hx
      refine ⟨rfl, ?_⟩
      show H1[H.size]? = some (vp_cell _ _)
      rw [e1, vp_cell_q]
      unfold ml_cell
      refine congrArg some ?_
      refine arrV_cg _ ?_
      intro j hj
      simp [hj, ml_l, va_rf]
    | succ j =>
      rw [List.getElem?_cons_succ, List.getElem?_map, Option.map_eq_some_iff] at hx
      obtain ⟨j', hj', rfl⟩ := hx
      have hj2 := List.getElem?_eq_some_iff.mp hj'
      obtain ⟨hlt, rfl⟩ := hj2
      rw [List.length_range] at hlt
      rw [List.getElem_range]
      refine ⟨by show H.size + 1 + j = _; omega, ?_⟩
      show H1[H.size + 1 + j]? = some (vp_cell _ _)
      rw [e2 j hlt]
      rfl
  refine kk H.size H1 ((hP.kept hold).app (fun i x hx => (hnew i x hx).2)) (hD.app ⟨?_, ?_⟩ ?_) ⟨Nat.le_trans hS.1 (by omega), fun x h1 h2 => (o1 x (Nat.lt_of_lt_of_le h1 hS.1)).trans (hS.2.1 x h1 h2), hS.2.2⟩
  · intro i j x y hx hy he
    have h1 := (hnew i x hx).1
    have h2 := (hnew j y hy).1
    omega
  · intro i x hx
    have h1 := (hnew i x hx).1
    exact hA _ (by have := hS.1; omega)
  · intro i j x y hx hy he
    have h1 := (hP i x hx).lt
    have h2 := (hnew j y hy).1
    omega
theorem q_ald2 {cc : ByteArray} {pc : Nat} {ls : Array Slot} {rest : List Value} {D : va_G} {cy : Nat → ClassId} {ws : va_W} {a : Nat} (hx : p.tables.exec = Jvm.exec) (hb : c.code = cc) (hK : va_K D classes (tyl cy) s) (hP : va_P D classes ws H) (q0 : Nat) {n : Nat} {f : Nat → Option Nat} (ha : ws[q0]? = some (a, .inl (cy 5, n, .inr (.inr (.inr (.inr f)))))) {i : Int32} (hin : vp_in i n) (hdg : decode cc pc = .ok (.aaload, 1))
    (kk : W p l e R s m args below meth c H locs cells slots Q (F0 m (pc + 1) ls (va_rf (f i.toNatClampNeg) :: rest))) : W p l e R s m args below meth c H locs cells slots Q (F0 m pc ls (.int i :: .ref a :: rest)) := by
  have hlt : i.toNatClampNeg < n := Nat.not_le.mp fun q => hin (Or.inr q)
  exact W.aald (v := va_rf (f i.toNatClampNeg)) (ty := .array .long) hx hb (hP q0 _ ha) ((hK.2 5 (cy 5, .array .long) rfl).1 n (fun j => va_rf (f j))) rfl (fun q => by cases q) (by show ¬ (i < 0 ∨ (arrV _ _ _).slots.size ≤ _); rw [arrV_size]; exact hin) (by show (arrV _ _ _).slots[_]? = _; rw [arrV_read _ _ hlt]) rfl rfl hdg kk
end MNB
