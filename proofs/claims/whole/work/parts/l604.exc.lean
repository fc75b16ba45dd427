section EX1
variable {e : Env} {s : State} {f : JFrame} {a : Addr}
theorem ex_go {Q : Handler → Pre} {E : CtlPost} {d : Bool} {acts : List Action} {x : ExceptionTableEntry} {t : List ExceptionTableEntry} {c : ClassId} {cell : Cell} {vm' : Vm} (hx : covers x f.pc = true) (h0 : x.catchType ≠ 0) (hg : (Jvm.resolveClass f.method.cls x.catchType).Gives e.toSetting s.vm (.ok c) vm') (hsz : vm'.classes.size ≤ s.vm.classes.size) (hcell : s.heap[a]? = some cell) (hobj : ∀ k, cell.vm ≠ .statics k) (hk : ∃ k, vm'.classes[cell.cls]? = some k) (hc : ∃ k, vm'.classes[c]? = some k) :
    wp (findHandler.go f a (x :: t)) Q E e d acts s ↔ if vm'.assignable cell.cls c = true then Q (.found x.handlerPc) d acts (s.setVm vm') else wp (findHandler.go f a t) Q E e d acts (s.setVm vm') := by
  obtain ⟨ha, ht⟩ := hg.op (op := VmOp.resolveClass f.method.cls x.catchType) rfl
  simp only [covers] at hx
  cases hfit : vm'.assignable cell.cls c <;>
    simp [findHandler.go, hx, h0, ha, ht, hsz, hcell, hobj, hk, hc, hfit, VmOp.dirties, VmOp.acts]
/-- the search ends in a handler at pc, at tables vm' -/
def ex_find (e : Env) (s : State) (f : JFrame) (a : Addr) (pc : Nat) (vm' : Vm) : Prop :=
  ∀ (Q : Handler → Pre) (E : CtlPost) (d : Bool) (acts : List Action), wp (findHandler f a) Q E e d acts s ↔ Q (.found pc) d acts (s.setVm vm')
theorem ex_catch {r : List Frame} {pc : Nat} {vm' : Vm} (hfind : ex_find e s f a pc vm') :
    (stepThrowing e s a (.java f :: r)).Is ((s.setVm vm').setFrames (.java { f with pc := pc, stack := [.ref a] } :: r)) [] := by
  simp only [stepThrowing, searchFrame, vmDo]
  generalize hr : Sem.go _ e false [] s = res
  obtain ⟨as, rfl, ha⟩ := Sem.eq_ok_of hr (a := Handler.found pc) (s' := s.setVm vm') (acts' := []) (by simp [hfind _ _ _ _])
  exact ⟨rfl, ha⟩
theorem ex_caught {tb : Tables} {T target : State} {g : JFrame} {c : Code} {below : List Frame} {vm' : Vm} (h : At T g.method c below) {pc : Nat} (hfind : ex_find e ((T.setTop g).pushFrame (.throwing a)) g a pc vm')
    (hrest : Steps tb e below ((T.setVm vm').setTop { g with pc := pc, stack := [.ref a] }) target) :
    Steps tb e below ((T.setTop g).pushFrame (.throwing a)) target := by
  obtain ⟨hgo, hw⟩ := h.throwing a
  refine Steps.head hgo hw ?_
  rw [stepThread_throwing (frames_entered h.top _), (ex_catch (s := (T.setTop g).pushFrame (.throwing a)) hfind).1]
  obtain ⟨g₀, hg⟩ := Option.isSome_iff_exists.mp h.top
  obtain ⟨r, hr⟩ := State.topJava?_eq_some.mp hg
  have hr' : (T.setVm vm').frames = .java g₀ :: r := hr
  rw [State.setTop_of_frames _ hr'] at hrest
  have e1 : (((T.setTop g).pushFrame (.throwing a)).setVm vm').setFrames (.java { g with pc := pc, stack := [.ref a] } :: T.frames.tail) = (T.setVm vm').setFrames (.java { g with pc := pc, stack := [.ref a] } :: r) := by
    rw [hr, State.pushFrame, State.setTop_of_frames _ hr, State.setFrames_setFrames]
    show ((T.setFrames _).setFrames _).setVm vm' = (T.setFrames _).setVm vm'
    rw [State.setFrames_setFrames]
    rfl
  have e2 : ((T.setTop g).pushFrame (.throwing a)).frames = .throwing a :: .java g :: T.frames.tail := by
    rw [frames_entered h.top]
  first
  | (rw [e1]; exact hrest)
  | (simp only [] ; rw [e1]; exact hrest)
end EX1

/-- a static of references, with all that its layout says -/
def va_L (C n d : String) (A : Nat → Prop) (U : State) (H : Heap) : Prop := ∃ (c : ClassId) (k : Class) (i : Nat) (f : Field) (a : Nat) (cell : Cell) (v : Value), U.vm.findClass C = some c ∧ U.fieldFound? C n d = some (c, k, i, f) ∧ f.isStatic = true ∧ k.statics = some a ∧ H[a]? = some cell ∧ cell.vm.isStatics = true ∧ cell.cls = c ∧ k.staticTypes[f.slot]? = some f.type ∧ cell.slots[f.slot]? = some v ∧ (v = .null ∨ ∃ t, v = .ref t) ∧ ¬ A a
theorem va_L.moved {C n d : String} {A : Nat → Prop} {u U : State} {H : Heap} (hvm : u.vm.Alike U.vm) (h : va_L C n d A u H) : va_L C n d A U H := by
  obtain ⟨c, k, i, f, a, cell, v, h0, h1, h2, h3, h4, h5, h6, h7, h8⟩ := h
  obtain ⟨k', hi', he⟩ := State.fieldFound?_setVm hvm h1
  exact ⟨c, k', i, f, a, cell, v, (hvm.findClass C none).trans h0, hi', h2, by rw [he]; exact h3, h4, h5, h6, by rw [he]; exact h7, h8⟩
theorem va_L.kept {C n d : String} {A : Nat → Prop} {U : State} {H H1 : Heap} (h : va_L C n d A U H) (hq : ∀ a : Nat, a < H.size → ¬ A a → H1[a]? = H[a]?) : va_L C n d A U H1 := by
  obtain ⟨c, k, i, f, a, cell, v, h0, h1, h2, h3, h4, h5, h6, h7, h8, h9, h10⟩ := h
  exact ⟨c, k, i, f, a, cell, v, h0, h1, h2, h3, (hq a (Array.getElem?_eq_some_iff.mp h4).1 h10).trans h4, h5, h6, h7, h8, h9, h10⟩
theorem va_L.narrow {C n d : String} {A B : Nat → Prop} {U : State} {H : Heap} (h : va_L C n d A U H) (hAB : ∀ q, B q → A q) : va_L C n d B U H := by
  obtain ⟨c, k, i, f, a, cell, v, h0, h1, h2, h3, h4, h5, h6, h7, h8, h9, h10⟩ := h
  exact ⟨c, k, i, f, a, cell, v, h0, h1, h2, h3, h4, h5, h6, h7, h8, h9, fun q => h10 (hAB a q)⟩
theorem va_L.lays {args : Array Value} {C n d : String} {A : Nat → Prop} {s : State} (h : va_L C n d A s s.heap) : (Cond.laysStatic C n d).before args s = true := by
  obtain ⟨c, k, i, f, a, cell, v, h0, h1, h2, h3, h4, h5, h6, h7, h8, h9, h10⟩ := h
  have hlt : f.slot < cell.slots.size := (Array.getElem?_eq_some_iff.mp h8).1
  simp [Cond.before, Cond.holds, Cond.value, h0, h1, h2, h3, h4, h5, h6, h7, hlt]
theorem va_L.isRef {args : Array Value} {C n d : String} {A : Nat → Prop} {s : State} (h : va_L C n d A s s.heap) : (Cond.isRef (.static C n d)).before args s = true := by
  obtain ⟨c, k, i, f, a, cell, v, h0, h1, h2, h3, h4, h5, h6, h7, h8, h9, h10⟩ := h
  have ev : (Term.static C n d).eval args s none [] s = some v := by
    simp [Term.eval, State.fieldNamed?, h1, h2, h3, h4, h5, h8]
  rcases h9 with rfl | ⟨t, rfl⟩ <;> simp [Cond.before, Cond.holds, Cond.value, ev]
theorem va_L.of {args : Array Value} {s : State} {C n d : String} {A : Nat → Prop} (hl : (Cond.laysStatic C n d).before args s = true) (h : (Cond.isRef (.static C n d)).before args s = true) (hA : ∀ a : Nat, a < s.heap.size → ¬ A a) : va_L C n d A s s.heap := by
  obtain ⟨c, k, i, f, a, cell, h0, h1, h2, h3, h4, h5, h6, h7, h8⟩ := Cond.laysStatic_spec hl
  have ev : (Term.static C n d).eval args s none [] s = cell.slots[f.slot]? := by
    simp [Term.eval, State.fieldNamed?, h1, h2, h3, h4, h5]
  obtain ⟨v, hv⟩ : ∃ v, cell.slots[f.slot]? = some v := ⟨_, Array.getElem?_eq_getElem h7⟩
  refine ⟨c, k, i, f, a, cell, v, h0, h1, h2, h3, h4, h5, h6, h8, hv, ?_, hA a (Array.getElem?_eq_some_iff.mp h4).1⟩
  simp only [Cond.before, Cond.holds, Cond.value, ev, hv] at h
  cases v <;> simp at h ⊢
/-- Throwable's two statics -/
def Th (A : Nat → Prop) (U : State) (H : Heap) : Prop := va_L "java/lang/Throwable" "UNASSIGNED_STACK" "[Ljava/lang/StackTraceElement;" A U H ∧ va_L "java/lang/Throwable" "SUPPRESSED_SENTINEL" "Ljava/util/List;" A U H
theorem Th.same {A : Nat → Prop} {u U : State} {H : Heap} (h : Th A u H) (e : u.vm = U.vm) : Th A U H := by
  have al : u.vm.Alike U.vm := by rw [e]; exact Vm.Alike.refl _
  exact ⟨h.1.moved al, h.2.moved al⟩
theorem Th.call {A A' : Nat → Prop} {s U : State} {H : Heap} {locs : List Loc} (h : Th A s s.heap) (hS : va_S A s.heap H locs) (hF : ∀ q, A' q → A q) (hW : s.WarmedH U.vm) : Th A' U H :=
  ⟨((h.1.kept hS.2.1).narrow hF).moved hW.alike, ((h.2.kept hS.2.1).narrow hF).moved hW.alike⟩
theorem fmc {α : Type} {P : α → Prop} {x : α} {t : List α} (h : P x) (ht : ∀ y ∈ t, P y) : ∀ y ∈ x :: t, P y := fun y hy => by
  rcases List.mem_cons.mp hy with rfl | hy
  · exact h
  · exact ht y hy

theorem ow_s {args : Array Value} {s : State} {A : Nat → Prop} (hts : ∀ w ∈ gw, w.before args s = true) (hN : ∀ w ∈ nw, va_Nw w s) (hT : Th A s s.heap) : ∀ a ∈ Bundle.ownAtoms0 "CoinKeeper" 85 "java/lang/IllegalStateException" ["java/lang/RuntimeException", "java/lang/Exception"], a.before args s = true :=
  fmc (hts _ gw_20) (fmc (hts _ gw_598) (fmc (hts _ gw_607) (fmc (hts _ gw_611) (fmc (hts _ gw_614) (fmc (hts _ gw_616) (fmc (hts _ gw_599) (fmc (hts _ gw_600) (fmc (hts _ gw_36) (fmc (hts _ gw_37) (fmc (hts _ gw_601) (fmc (hts _ gw_606) (fmc (hts _ gw_612) (fmc (hts _ gw_628) (fmc (hts _ gw_588) (fmc (hts _ gw_629) (fmc (hts _ gw_590) (fmc (hts _ gw_630) (fmc (hts _ gw_592) (fmc (hts _ gw_602) (fmc (hT.1.lays) (fmc (hts _ gw_604) (fmc (hT.2.lays) (fmc (hts _ gw_594) (fmc (hts _ gw_618) (fmc (hts _ gw_619) (fmc (hts _ gw_620) (fmc (hts _ gw_621) (fmc (va_Nw.use (A := args) rfl (hN _ (List.mem_of_getElem? (i := 8) rfl))) (fmc (hts _ gw_621) (fmc (hts _ gw_622) (fmc (hts _ gw_623) (fmc (hts _ gw_624) (fmc (va_Nw.use (A := args) rfl (hN _ (List.mem_of_getElem? (i := 10) rfl))) (fmc (hts _ gw_624) (fmc (hts _ gw_625) (fmc (hts _ gw_626) (fmc (hts _ gw_599) (fmc (va_Nw.use (A := args) rfl (hN _ (List.mem_of_getElem? (i := 12) rfl))) (fmc (hts _ gw_617) (fmc (hts _ gw_577) (fmc (va_Nw.use (A := args) rfl (hN _ (List.mem_of_getElem? (i := 7) rfl))) (fmc (hts _ gw_585) (fmc (hts _ gw_586) (fmc (hts _ gw_587) (fmc (hts _ gw_589) (fmc (hts _ gw_591) (fmc (hts _ gw_593) (fmc (hT.1.isRef) (fmc (hT.2.isRef) (fmc (hts _ gw_597) (fmc (hts _ gw_596) (fmc (hts _ gw_595) (fun _ h => nomatch h)))))))))))))))))))))))))))))))))))))))))))))))))))))
theorem ow_a {args : Array Value} {s : State} {A : Nat → Prop} (hts : ∀ w ∈ gw, w.before args s = true) (hN : ∀ w ∈ nw, va_Nw w s) (hT : Th A s s.heap) : ∀ a ∈ Bundle.ownAtoms0 "CoinKeeper" 92 "java/lang/IllegalArgumentException" ["java/lang/RuntimeException", "java/lang/Exception"], a.before args s = true :=
  fmc (hts _ gw_20) (fmc (hts _ gw_598) (fmc (hts _ gw_607) (fmc (hts _ gw_611) (fmc (hts _ gw_614) (fmc (hts _ gw_616) (fmc (hts _ gw_599) (fmc (hts _ gw_600) (fmc (hts _ gw_36) (fmc (hts _ gw_37) (fmc (hts _ gw_601) (fmc (hts _ gw_606) (fmc (hts _ gw_612) (fmc (hts _ gw_628) (fmc (hts _ gw_588) (fmc (hts _ gw_629) (fmc (hts _ gw_590) (fmc (hts _ gw_630) (fmc (hts _ gw_592) (fmc (hts _ gw_602) (fmc (hT.1.lays) (fmc (hts _ gw_604) (fmc (hT.2.lays) (fmc (hts _ gw_594) (fmc (hts _ gw_661) (fmc (hts _ gw_662) (fmc (hts _ gw_663) (fmc (hts _ gw_621) (fmc (va_Nw.use (A := args) rfl (hN _ (List.mem_of_getElem? (i := 8) rfl))) (fmc (hts _ gw_621) (fmc (hts _ gw_622) (fmc (hts _ gw_623) (fmc (hts _ gw_624) (fmc (va_Nw.use (A := args) rfl (hN _ (List.mem_of_getElem? (i := 10) rfl))) (fmc (hts _ gw_624) (fmc (hts _ gw_625) (fmc (hts _ gw_626) (fmc (hts _ gw_599) (fmc (va_Nw.use (A := args) rfl (hN _ (List.mem_of_getElem? (i := 12) rfl))) (fmc (hts _ gw_660) (fmc (hts _ gw_652) (fmc (va_Nw.use (A := args) rfl (hN _ (List.mem_of_getElem? (i := 14) rfl))) (fmc (hts _ gw_654) (fmc (hts _ gw_609) (fmc (hts _ gw_655) (fmc (hts _ gw_656) (fmc (hts _ gw_657) (fmc (hts _ gw_658) (fmc (hT.1.isRef) (fmc (hT.2.isRef) (fmc (hts _ gw_597) (fmc (hts _ gw_596) (fmc (hts _ gw_659) (fun _ h => nomatch h)))))))))))))))))))))))))))))))))))))))))))))))))))))
theorem ow_n {args : Array Value} {s : State} {A : Nat → Prop} (hts : ∀ w ∈ gw, w.before args s = true) (hN : ∀ w ∈ nw, va_Nw w s) (hT : Th A s s.heap) : ∀ a ∈ Bundle.ownAtoms0 "CoinKeeper" 186 "java/util/NoSuchElementException" ["java/lang/RuntimeException", "java/lang/Exception"], a.before args s = true :=
  fmc (hts _ gw_20) (fmc (hts _ gw_598) (fmc (hts _ gw_607) (fmc (hts _ gw_611) (fmc (hts _ gw_614) (fmc (hts _ gw_616) (fmc (hts _ gw_599) (fmc (hts _ gw_600) (fmc (hts _ gw_36) (fmc (hts _ gw_37) (fmc (hts _ gw_601) (fmc (hts _ gw_606) (fmc (hts _ gw_612) (fmc (hts _ gw_628) (fmc (hts _ gw_588) (fmc (hts _ gw_629) (fmc (hts _ gw_590) (fmc (hts _ gw_630) (fmc (hts _ gw_592) (fmc (hts _ gw_602) (fmc (hT.1.lays) (fmc (hts _ gw_604) (fmc (hT.2.lays) (fmc (hts _ gw_594) (fmc (hts _ gw_1324) (fmc (hts _ gw_1325) (fmc (hts _ gw_1326) (fmc (hts _ gw_621) (fmc (va_Nw.use (A := args) rfl (hN _ (List.mem_of_getElem? (i := 8) rfl))) (fmc (hts _ gw_621) (fmc (hts _ gw_622) (fmc (hts _ gw_623) (fmc (hts _ gw_624) (fmc (va_Nw.use (A := args) rfl (hN _ (List.mem_of_getElem? (i := 10) rfl))) (fmc (hts _ gw_624) (fmc (hts _ gw_625) (fmc (hts _ gw_626) (fmc (hts _ gw_599) (fmc (va_Nw.use (A := args) rfl (hN _ (List.mem_of_getElem? (i := 12) rfl))) (fmc (hts _ gw_1323) (fmc (hts _ gw_1315) (fmc (va_Nw.use (A := args) rfl (hN _ (List.mem_of_getElem? (i := 22) rfl))) (fmc (hts _ gw_1317) (fmc (hts _ gw_610) (fmc (hts _ gw_1318) (fmc (hts _ gw_1319) (fmc (hts _ gw_1320) (fmc (hts _ gw_1321) (fmc (hT.1.isRef) (fmc (hT.2.isRef) (fmc (hts _ gw_597) (fmc (hts _ gw_596) (fmc (hts _ gw_1322) (fun _ h => nomatch h)))))))))))))))))))))))))))))))))))))))))))))))))))))

section EX4
variable {p : Program} {l : Launch} {e : Env} {R : Room} {s : State} {m : MethodId} {args : Array Value} {below : List Frame} {meth : Method} {c : Code} {H : Heap} {locs : List Loc} {cells slots : Nat} {Q : State → Prop}
/-- what a method leaves that throws a new object of kind C and has changed nothing -/
def TQ (C : String) (st t : State) (x : Nat) : Prop := st.WarmedH t.vm ∧ st.sameButNew ({ t with vm := st.vm } : State) [] 1 6 ∧ st.heap.size ≤ x ∧ ∃ ce : Cell, t.heap[x]? = some ce ∧ ce.vm.isStatics = false ∧ st.vm.findClass C = some ce.cls
def MQT (below : List Frame) (C : String) (s : State) : State → Prop := fun t => ∃ x, t.status = .running ∧ Ended t below (.threw x) ∧ TQ C s t x
def MetT (l : Launch) (y : MethodName) (ws : List Cond) (rm : Room) (Pc : Array Value → State → Prop) (C : String) : Prop := MetFree l y (headSpec ws rm) Pc (fun _ _ _ _ _ => True) (fun _ st o t => ∃ x, o = .threw x ∧ TQ C st t x)
theorem q_throw {cc : ByteArray} {own X : String} {names : List String} {ci ic pc nL : Nat} {ls : Array Slot} (hlt : ∀ e, l.admits e → e.platform.stackTraces = false) (hx : p.tables.exec = Jvm.exec) (hb : c.code = cc) (hml : c.maxLocals = nL) (hsz : ls.size = nL) (hlocks : meth.locks = false) (hown : s.vm.findClass own = some m.cls) (hfit : Bundle.fit X = true) (hnames : ∀ n ∈ names, Bundle.fit n = true) (hat : ∀ a ∈ Bundle.ownAtoms0 own ic X names, a.before args s = true) (hclink : (Cond.classLink own ci X).before args s = true) (hinit : (Cond.initialized X).before args s = true) (hex : c.exceptionTable.isEmpty = true) (hR1 : 1 ≤ R.cells) (hR2 : 6 ≤ R.slots) (hR3 : names.length + 3 < R.frames) (hR4 : 1 + (13 * (names.length + 1) + 41) ≤ R.locals)
    (d0 : decode cc pc = .ok (.new ci, 3)) (d3 : decode cc (pc + 3) = .ok (.dup, 1)) (d4 : decode cc (pc + 4) = .ok (.invokespecial ic, 3)) (d7 : decode cc (pc + 7) = .ok (.athrow, 1)) :
    W p l e R s m args below meth c s.heap [] 0 0 (MQT below X s) (F0 m pc ls []) := by
  refine W.newc hx hb hown hclink (hat (.instantiable X 6) (by simp [Bundle.ownAtoms0])) hinit rfl d0 (by omega) (by omega) (fun cC kC h1 h2 h3 h4 => ?_)
  refine lv_dup (pc := pc + 3) (ls := ls) (rest := []) (va := .ref s.heap.size) hx hb d3 rfl ?_
  intro T hT Z
  subst hb
  obtain ⟨U, st, hrun, hend, hW, hsame, ce, hce, hoc⟩ := Z.ctorThrow0 hx (hlt e Z.admits) hown hfit hnames hat (fun x hx => nomatch hx) (a := s.heap.size) h1 h2 (by rw [hT]; simp [freshCell]) (Nat.le_refl _) (g := F0 m (pc + 4) ls [.ref s.heap.size, .ref s.heap.size]) rfl (hsz.trans hml.symm) rfl rfl rfl d4 d7 (fun x hx => by
    have : c.exceptionTable.toList = [] := by
      have := Array.isEmpty_iff.mp hex
      rw [this]
    rw [this] at hx; exact nomatch hx) hR3 (by show 2 * 0 + (1 + 0) + _ ≤ _; omega) hlocks
  exact ⟨U, st, s.heap.size, hrun, hend, hW, hsame, Nat.le_refl _, ce, hce, by rw [hoc.vm]; rfl, hoc.cls⟩
end EX4

section EX5
variable {p : Program} {l : Launch} {e : Env} {R : Room} {s : State} {m : MethodId} {args : Array Value} {below : List Frame} {meth : Method} {c : Code} {H : Heap} {locs : List Loc} {cells slots : Nat} {Q : State → Prop}
  {Ts ws ws' : List Cond} {cc bytes : ByteArray} {nL maxL index n : Nat} {own C : String} {y : MethodName} {ret : Option FieldType} {rm : Room} {Pc : Array Value → State → Prop}
  {b : Addr} {As rest : List Value} {pc : Nat} {ls : Array Slot}
theorem q_callT (S : CallFix p m c cc nL s args Ts own) {X : String} (hM : MetT l y ws rm Pc X) (cw : CallW R s args own C index y bytes maxL ret ws rm 1 6 n) (hp : PreV s H C b Pc As) (hn : As.length = n) (hsize : ls.size = nL) (hW : 2 * (F0 m pc ls (As.reverse ++ .ref b :: rest)).monitorRoom + (rest.map fun v => v.category).sum ≤ 8) (hdg : decode cc pc = .ok (.invokevirtual index, 3)) (hf : cells + 1 ≤ R.cells ∧ slots + 6 ≤ R.slots)
    {x0 : ExceptionTableEntry} {xs : List ExceptionTableEntry} (hxt : c.exceptionTable.toList = x0 :: xs) (hcov : covers x0 pc = true) (hc0 : x0.catchType ≠ 0) (hcl : (Cond.classLink own x0.catchType X).before args s = true) (hcast : va_Nw (.castable X X) s)
    (kk : ∀ (x : Nat) (H1 : Heap), H.size ≤ H1.size → (∀ q, q < H.size → H1[q]? = H[q]?) → W p l e R s m args below meth c H1 locs (cells + 1) (slots + 6) Q (F0 m x0.handlerPc ls [.ref x])) : W p l e R s m args below meth c H locs cells slots Q (F0 m pc ls (As.reverse ++ .ref b :: rest)) := by
  obtain ⟨⟨hrc, hrs, hfr, hlo, hws, hcw, hcode, hini, hy, hlen, hl⟩, hin, hse⟩ := cw
  obtain ⟨hx, hb, hml, ho, -⟩ := S
  obtain ⟨hbl, ⟨cellB, hcB, hoB, hclB⟩, hPc⟩ := hp
  intro T hT Z
  subst hb
  obtain ⟨mk, methM, hnamed, hmethM, hstM, habM⟩ := Cond.instanceMethod_spec hin
  obtain ⟨methM', cM, hmethM', hcM, -, hlM, -, -, -, hsigM⟩ := Cond.code_spec hnamed hcode
  cases hmethM.symm.trans hmethM'
  obtain ⟨c2, r2, m2, q1, q2, q3, q4, kP, hkP, hkPi⟩ := Cond.selects_spec hse
  cases hclB.symm.trans q1
  cases (State.methodFound?_of_named hnamed hy).symm.trans q2
  cases hnamed.symm.trans q3
  have hselP : selectMethod e.platform s.vm cellB.cls mk = .method mk := by rw [Launch.admits_selectMethod Z.admits]; exact q4
  obtain ⟨vm₁, X₁, hstep₁⟩ := Z.invokevirtual hx ho hl hnamed hmethM hstM hkP hkPi hy (a := b) (cell := cellB) (by rw [hT]; exact hcB)
    (fun z h => by rw [h] at hoB; cases hoB) hselP hmethM habM hkP hkPi (g := F0 m pc ls (As.reverse ++ .ref b :: rest)) rfl (argsL := As) (rest := rest) (hn.trans (hlen _ hsigM)) rfl hdg
  have hn₁ := X₁.named hnamed
  generalize hU : T.setVm vm₁ = U at X₁ hstep₁ hn₁
  generalize hg' : ({ F0 m pc ls (As.reverse ++ .ref b :: rest) with stack := rest } : JFrame) = g at hstep₁
  have hgm : g.method = m := by rw [← hg']
  have hgpc : g.pc = pc := by rw [← hg']
  have hUh : U.heap = H := by rw [← hU]; exact hT
  have wd : ∀ w ∈ ws, w.before (Value.ref b :: As).toArray U = true := fun w hw => hws w hw _ _ X₁.warmed
  obtain ⟨kY, hkY, -⟩ := className_of_methodNamed hn₁
  have h3 : (Cond.initialized y.cls).before (Value.ref b :: As).toArray U = true := word_at X₁.warmed (Or.inl (by first | rfl | simp [Cond.onTables, Cond.keeps, Cond.steady])) hini
  have hinitY : kY.init = .initialized := Cond.initialized_spec (findClass_of_methodNamed hn₁) hkY h3
  obtain ⟨methY, cY, hmY, hcY, -, hlY, -⟩ := Cond.code_spec hn₁ (wd _ hcw)
  have h : At U g.method c below := by rw [hgm]; exact X₁.here
  have hsz : g.locals.size = c.maxLocals := by rw [← hg']; exact hsize.trans hml.symm
  have hWg : 2 * g.monitorRoom + (g.stack.map fun v => v.category).sum ≤ 8 := by rw [← hg']; exact hW
  have hdg' : decode c.code g.pc = .ok (.invokevirtual index, 3) := by rw [hgpc]; exact hdg
  have happ : (headSpec ws rm).appliesLoose y e.platform (U.calling g mk (Value.ref b :: As).toArray) = true :=
    Spec.appliesLoose_calling (g := g) h hdg' hn₁ hkY hinitY
      (X₁.room_calling (g := g) (R' := (headSpec ws rm).room) hsz hmY hcY hfr (by rw [hlY]; have : (headSpec ws rm).room.locals = rm.locals := rfl; omega) (by rw [show (headSpec ws rm).room.cells = 1 from hrc]; exact hf.1) (by rw [show (headSpec ws rm).room.slots = 6 from hrs]; exact hf.2)) (atoms_intro wd)
  obtain ⟨mid, hmid⟩ := h.above
  have hfr2 : (U.setTop g).frames = (.java g :: mid) ++ below := by rw [State.frames_setTop' g h.top, hmid]; rfl
  obtain ⟨o, t, hsteps, -, hend, x, ho', hWt, hsame, hxn, ce, hce, hces, hcec⟩ := Steps.callFree hM p X₁.admits X₁.cas X₁.clock (acts := []) hfr2 happ (hbl _ _ _ _ (hPc U hUh X₁.warmed)) trivial
  subst ho'
  rw [State.frames_setTop' g h.top, X₁.tail] at hend
  obtain ⟨T', X', hW', hsame', ht⟩ := X₁.outOfThrown hgm hend hWt hsame
  have hpl : e.platform.magicAccessors = ({} : Platform).magicAccessors := by rw [Z.admits.platform]
  obtain ⟨cX, hcX, hclk⟩ := Cond.classLink_spec ho hcl e.platform hpl
  obtain ⟨hg₁, hwarm₁, hready₁⟩ := State.classEntry (e := e) X'.warmed hclk
  generalize hvm2 : T'.vm.noted m.cls x0.catchType (.cls cX) = vm₂ at hg₁ hwarm₁ hready₁
  have hh' : T'.heap = t.heap := by
    rw [ht]; exact (Stand.throwing_heap T' g x).symm
  obtain ⟨c0, t0, f1, f2, f3⟩ := Cond.castable_spec (va_Nw.use (A := args) rfl hcast)
  have eX : c0 = ce.cls := by
    have h1 : s.vm.findClass X = some ce.cls := by
      have h2 : U.vm.findClass X = some ce.cls := hcec
      rw [← (X₁.warmed.alike).findClass X none]; exact h2
    exact Option.some.inj (f1.symm.trans h1)
  cases f1.symm.trans f2
  have eC : cX = c0 := Option.some.inj (hcX.symm.trans f1)
  subst eX
  subst eC
  have hkc : ∃ k, vm₂.classes[ce.cls]? = some k := Vm.classAt_of_findClass (show vm₂.findClass X = some ce.cls by rw [hwarm₁.alike.findClass]; exact f1)
  have hfind : ex_find e ((T'.setTop g).pushFrame (.throwing x)) g x x0.handlerPc vm₂ := by
    intro Q E d acts
    have hm : ((T'.setTop g).pushFrame (.throwing x)).vm.method? g.method = some meth ∨ True := Or.inr trivial
    obtain ⟨meth', hm', hc'⟩ : ∃ meth', T'.vm.method? g.method = some meth' ∧ meth'.code = some c := by
      have := X'.here.code
      rw [State.code?_eq] at this
      obtain ⟨meth', h1, h2⟩ := Option.bind_eq_some_iff.mp this
      exact ⟨meth', by rw [hgm]; exact h1, h2⟩
    rw [W.findHandler_eq (by rw [Stand.throwing_vm]; exact hm') hc', hxt, ex_go (c := ce.cls) (cell := ce) (vm' := vm₂) (by rw [hgpc]; exact hcov) hc0 (by rw [hgm, Stand.throwing_vm]; exact hg₁) (by rw [Stand.throwing_vm, ← hvm2]; no_record) (by rw [Stand.throwing_heap, hh']; exact hce) (fun k hk => by rw [hk] at hces; cases hces) hkc hkc, if_pos (by rw [hwarm₁.alike.assignable]; exact f3)]
  have X₂ := X'.noted hwarm₁
  have hloc : locs ++ ([] : List Loc) = locs := List.append_nil _
  rw [hloc] at X₂
  obtain ⟨u, a1, b1⟩ := kk x t.heap (by have := hsame.2.1; rw [← hUh]; exact this) (fun q hq => by
    obtain ⟨-, -, -, -, -, hk⟩ := hsame
    have hq' : q < U.heap.size := by rw [hUh]; exact hq
    obtain ⟨c', k1, k2, k3, k4⟩ := hk q U.heap[q] (Array.getElem?_eq_getElem hq')
    have e1 : c'.slots = U.heap[q].slots := by
      apply Array.ext k3
      intro i hi1 hi2
      have := k4 i (fun hmem => nomatch hmem)
      rw [Array.getElem?_eq_getElem hi1, Array.getElem?_eq_getElem hi2] at this
      exact Option.some.inj this
    have e2 : c' = U.heap[q] := by rw [k2, e1]
    have k1' : t.heap[q]? = some c' := k1
    rw [k1', e2, ← hUh, Array.getElem?_eq_getElem hq']) (T'.setVm vm₂) hh' X₂
  refine ⟨u, hstep₁ _ (fun acts => ?_), b1⟩
  rw [doInvoke_state]
  refine hsteps.trans ?_
  rw [ht]
  refine ex_caught (by rw [hgm]; exact X'.here) hfind ?_
  have : ({ g with pc := x0.handlerPc, stack := [.ref x] } : JFrame) = F0 m x0.handlerPc ls [.ref x] := by rw [← hg']
  rw [this]
  exact a1
end EX5

def PrT (D : va_G) (cy : Nat → ClassId) (ad : Nat → Nat) (wc : va_W) (sz : Nat) (U : State) : Prop := Pr D cy ad wc sz U ∧ Th (va_A wc sz) U U.heap
section EX6
variable {l : Launch} {cc : ByteArray} {D : va_G} {cy : Nat → ClassId} {ad : Nat → Nat} {wc : va_W}
abbrev rm_T : Room := { frames := 6, cells := 1, slots := 6, locals := 81 }
theorem q_metT {y : MethodName} {nL : Nat} {rt : Option FieldType} {own X : String} {av : List Value} (hy : plainName y.cls = true) (hown : y.cls = own) {nm : String} (hnm : y.name = nm) (hlen : (lg_sl av).length ≤ nL)
    (body : ∀ (p : Program) (e : Env) (s : State) (m : MethodId) (below : List Frame) (meth : Method) (c : Code) (ls : Array Slot), Fx p s m av.toArray meth c cc nL own nm rt D cy ad (va_A wc s.heap.size) → Th (va_A wc s.heap.size) s s.heap → va_P D classes wc s.heap → va_D (va_A wc s.heap.size) wc → va_S (va_A wc s.heap.size) s.heap s.heap [] → lv_has ls nL (lv_args 0 av) → W p l e rm_T s m av.toArray below meth c s.heap [] 0 0 (MQT below X s) (F0 m 0 ls []))
    (sz : Nat) : MetT l y (.code y cc nL rt :: gw) rm_T (va_Pc av (PrT D cy ad wc sz)) X := by
  refine MetFree.of_bodyS (code := cc) (maxLocals := nL) (ret := rt) hy ?_ ?_
  · intro args s m h hn
    obtain ⟨meth, c, h1, h2, h3, h4, h5, h6, -, -⟩ := Cond.code_spec hn (atoms_spec (ws := .code y cc nL rt :: gw) h _ List.mem_cons_self)
    exact ⟨meth, c, h1, h2, h3, h4, h5, h6⟩
  · intro p e s m args below meth c s₁ B hml hv _
    have hh0 : s₁.heap = s.heap := by rw [B.state]; rfl
    obtain ⟨rfl, ⟨hsz, hP, hK, hD0, hSt⟩, hT⟩ := hv
    subst hsz
    subst hown
    subst hnm
    have hts := atoms_spec (ws := .code y cc nL rt :: gw) B.pre
    have hl := lv_entry av (n := nL) hlen
    have hw := body p e s m below meth c _ ⟨B.exec, B.bytes, B.returns, hml, findClass_of_methodNamed B.named, fun w h => hts w (List.mem_cons_of_mem _ h), B.notSynchronized, hK, fun q h => Or.inr h, hSt, (name_of_methodNamed B.named B.method).1, B.noHandlers (hts _ List.mem_cons_self)⟩ hT hP hD0.self va_S.rf hl
    rw [← lg_entry_eq] at hw
    obtain ⟨t, a1, x, b1, b2, b3⟩ := hw s₁ hh0 (Stand.of_body B)
    exact ⟨t, .threw x, a1, b1, b2, x, rfl, b3⟩
theorem q_preT {s : State} {A : Nat → Prop} {H : Heap} {locs : List Loc} (hP : va_P D classes wc H) (hD : va_D A wc) (hK : va_K D classes (tyl cy) s) (hSt : St ad A s s.heap) (hT : Th A s s.heap) (hS : va_S A s.heap H locs) (hF : ∀ q, va_A wc H.size q → A q) (As : List Value) : PreS s H (va_Pc As (PrT D cy ad wc H.size)) As := by
  obtain ⟨h1, h2⟩ := q_pre hP hD hK hSt hS hF As
  refine ⟨fun a U g mk q => ?_, fun U hU hW => ⟨rfl, (h2 U hU hW).2, by rw [hU]; exact hT.call hS hF hW⟩⟩
  obtain ⟨q0, q1, q2⟩ := q
  exact ⟨q0, (h1 a U g mk ⟨q0, q1⟩).2, Th.same (u := U) (U := U.calling g mk a) q2 rfl⟩
theorem q_preVT {s : State} {H : Heap} {C : String} {b : Addr} {As : List Value} (h : PreS s H (va_Pc (.ref b :: As) (PrT D cy ad wc H.size)) (.ref b :: As)) (hr : ∃ cell : Cell, H[b]? = some cell ∧ cell.vm.isStatics = false ∧ s.vm.findClass C = some cell.cls) : PreV s H C b (va_Pc (.ref b :: As) (PrT D cy ad wc H.size)) As := ⟨h.1, hr, h.2⟩
end EX6

def ort {β : Type} (t : Option Unit) (a b : Option β) : Option β := match t with
  | some _ => a
  | none => b
theorem ortp {β : Type} {t : Option Unit} {a b : Option β} {r : β} (h : ort t a b = some r) : (t = some () ∧ a = some r) ∨ (t = none ∧ b = some r) := by
  cases t with
  | none => exact Or.inr ⟨rfl, h⟩
  | some u => exact Or.inl ⟨rfl, h⟩
/-- what stays the same on a walk through a method that has handlers -/
def FxW (p : Program) (s : State) (m : MethodId) (args : Array Value) (meth : Method) (c : Code) (cc : ByteArray) (nL : Nat) (own nm : String) (rt : Option FieldType) (D : va_G) (cy : Nat → ClassId) (ad : Nat → Nat) (A : Nat → Prop) (hh : List (Nat × Nat × Nat × Nat)) : Prop :=
  p.tables.exec = Jvm.exec ∧ c.code = cc ∧ meth.sig.returnType = rt ∧ c.maxLocals = nL ∧ s.vm.findClass own = some m.cls ∧ (∀ w ∈ gw, w.before args s = true) ∧ meth.locks = false ∧ va_K D classes (tyl cy) s ∧ (∀ q, s.heap.size ≤ q → A q) ∧ St ad A s s.heap ∧ meth.name = nm ∧ c.exceptionTable.toList.map (fun h => (h.startPc, h.endPc, h.handlerPc, h.catchType)) = hh ∧ Th A s s.heap
section EX7
variable {p : Program} {l : Launch} {e : Env} {R : Room} {s : State} {m : MethodId} {args : Array Value} {below : List Frame} {meth : Method} {c : Code} {H : Heap} {locs : List Loc} {cells slots : Nat} {Q : State → Prop}
  {Ts ws' : List Cond} {cc bytes : ByteArray} {nL maxL index n : Nat} {own C : String} {y : MethodName} {ret : Option FieldType} {rm : Room} {Pc : Array Value → State → Prop} {Qc : Array Value → State → Outcome → State → Prop} {mc ms : Nat} {free : Addr → Prop}
  {b : Addr} {As rest : List Value} {pc : Nat} {ls : Array Slot} {D : va_G} {cy : Nat → ClassId} {ad : Nat → Nat} {A : Nat → Prop} {ws : va_W} {hh : List (Nat × Nat × Nat × Nat)}
theorem ex_tab {k0 k1 k2 k3 : Nat} {hs : List (Nat × Nat × Nat × Nat)} (h : c.exceptionTable.toList.map (fun h => (h.startPc, h.endPc, h.handlerPc, h.catchType)) = (k0, k1, k2, k3) :: hs) : ∃ x0 xs, c.exceptionTable.toList = x0 :: xs ∧ x0.startPc = k0 ∧ x0.endPc = k1 ∧ x0.handlerPc = k2 ∧ x0.catchType = k3 := by
  cases hc : c.exceptionTable.toList with
  | nil => rw [hc] at h; cases h
  | cons x0 xs =>
    rw [hc, List.map_cons] at h
    have := (List.cons.inj h).1
    simp only [Prod.mk.injEq] at this
    exact ⟨x0, xs, rfl, this.1, this.2.1, this.2.2.1, this.2.2.2⟩
/-- a call that throws, and its handler is the first of the table -/
theorem q_thr {X : String} {wt : List Cond} {k0 k1 k2 k3 : Nat} {hs : List (Nat × Nat × Nat × Nat)} (S : CallFix p m c cc nL s args Ts own) (hM : MetT l y wt rm Pc X) (cw : CallW R s args own C index y bytes maxL ret wt rm 1 6 n) (hp : PreV s H C b Pc As) (hn : As.length = n) (hsize : ls.size = nL) (hW : (rest.map fun v => v.category).sum ≤ 8) (hdg : decode cc pc = .ok (.invokevirtual index, 3)) (hf : cells + 1 ≤ R.cells ∧ slots + 6 ≤ R.slots)
    (hxt : c.exceptionTable.toList.map (fun h => (h.startPc, h.endPc, h.handlerPc, h.catchType)) = (k0, k1, k2, k3) :: hs) (hk0 : (decide (k0 ≤ pc) && decide (pc < k1)) = true) (hk3 : k3 ≠ 0) (hcl : (Cond.classLink own k3 X).before args s = true) (hcast : va_Nw (.castable X X) s) (hP : va_P D classes ws H) (hS : va_S A s.heap H locs)
    (kk : ∀ (x : Nat) (H1 : Heap), va_P D classes ws H1 → va_S A s.heap H1 locs → W p l e R s m args below meth c H1 locs (cells + 1) (slots + 6) Q (F0 m k2 ls [.ref x])) : W p l e R s m args below meth c H locs cells slots Q (F0 m pc ls (As.reverse ++ .ref b :: rest)) := by
  obtain ⟨x0, xs, h0, h1, h2, h3, h4⟩ := ex_tab hxt
  subst h1 h2 h3 h4
  exact q_callT S hM cw hp hn hsize (by show 2 * 0 + _ ≤ 8; omega) hdg hf h0 hk0 hk3 hcl hcast (fun x H1 z1 z2 => kk x H1 (hP.kept (fun i y hy => z2 y.1 ((hP i y hy).lt))) ⟨Nat.le_trans hS.1 z1, fun q q1 q2 => (z2 q (Nat.lt_of_lt_of_le q1 hS.1)).trans (hS.2.1 q q1 q2), hS.2.2⟩)
/-- from the walk to the contract, for a method with handlers -/
theorem q_metW {nm : String} {wc : va_W} {av : List Value} {Qd : (Nat → Prop) → Array Value → State → Outcome → State → Prop} (hy : plainName y.cls = true) (hown : y.cls = own) (hnm : y.name = nm) (hlen : (lg_sl av).length ≤ nL)
    (body : ∀ (p : Program) (e : Env) (s : State) (m : MethodId) (below : List Frame) (meth : Method) (c : Code) (ls : Array Slot), FxW p s m av.toArray meth c cc nL own nm ret D cy ad (va_A wc s.heap.size) hh → va_P D classes wc s.heap → va_D (va_A wc s.heap.size) wc → va_S (va_A wc s.heap.size) s.heap s.heap [] → lv_has ls nL (lv_args 0 av) → W p l e rm s m av.toArray below meth c s.heap [] 0 0 (MQ below (Qd (va_A wc s.heap.size)) av.toArray s mc ms (va_A wc s.heap.size)) (F0 m 0 ls []))
    (sz : Nat) : Met l y (.codeWith y cc nL ret hh :: gw) rm (va_Pc av (PrT D cy ad wc sz)) (Qd (va_A wc sz)) mc ms (va_A wc sz) := by
  refine va_MetW (cc := cc) (maxL := nL) (ret := ret) (hh := hh) hy rfl ?_
  intro p e s m args below meth c s₁ B hml hv
  obtain ⟨rfl, ⟨hsz, hP, hK, hD0, hSt⟩, hT⟩ := hv
  subst hsz
  subst hown
  subst hnm
  have hts := atoms_spec (ws := .codeWith y cc nL ret hh :: gw) B.pre
  have hl := lv_entry av (n := nL) hlen
  obtain ⟨m9, meth9, c9, hn9, hm9, hc9, -, -, hx9, -⟩ := Cond.codeWith_spec (hts _ List.mem_cons_self)
  cases B.named.symm.trans hn9
  cases B.method.symm.trans hm9
  have hc0 := (Stand.of_body B).code
  cases hc0.symm.trans hc9
  rw [lg_entry_eq]
  exact body p e s m below meth c _ ⟨B.exec, B.bytes, B.returns, hml, findClass_of_methodNamed B.named, fun w h => hts w (List.mem_cons_of_mem _ h), B.notSynchronized, hK, fun q h => Or.inr h, hSt, (name_of_methodNamed B.named B.method).1, hx9, hT⟩ hP hD0.self va_S.rf hl
/-- a static call of a method with handlers -/
theorem q_runSW (S : CallFix p m c cc nL s args gw own) (hM : Met l y (.codeWith y bytes maxL ret hh :: gw) rm Pc Qc mc ms free) (hc : Cond.codeWith y bytes maxL ret hh ∈ gw) (hi : Cond.initialized y.cls ∈ gw) (hl : Cond.methodLink own index y ∈ gw) (hst : Cond.static y ∈ gw) (hd : y.cls ≠ "java/lang/invoke/MethodHandle" ∧ y.cls ≠ "java/lang/invoke/VarHandle" ∧ (parseMethodDescriptor y.desc).map (fun d => d.parameters.length) = some n) (hR : rm.frames + 1 ≤ R.frames ∧ 8 + (maxL + 11) + rm.locals ≤ R.locals) (hrc : rm.cells = mc) (hrs : rm.slots = ms) (hp : PreS s H Pc As)
    (hn : As.length = n) (hsize : ls.size = nL) (hW : (rest.map fun v => v.category).sum ≤ 8) (hdg : decode cc pc = .ok (.invokestatic index, 3)) (hf : cells + mc ≤ R.cells ∧ slots + ms ≤ R.slots) :
    va_Run p l e R s m args below meth c H locs cells slots mc ms (F0 m pc ls (As.reverse ++ rest)) rest (Qc As.toArray) free := by
  obtain ⟨hx, hb, hml, ho, hts⟩ := S
  have hG : GoodIn gw (.codeWith y bytes maxL ret hh :: gw) := fun w h => (List.mem_cons.mp h).elim (fun e => by rw [e]; exact gw_good _ hc) (gw_good w)
  have hK : Back l R p e below s args y 3 8 (PreOf R mc ms Pc) (PostOf Qc mc ms free) :=
    va_backW hM hp.1 hrc hrs hR.1 hR.2 (pay_in hts hG) List.mem_cons_self (fun a' U hW => word_at hW (Or.inl (by first | rfl | simp [Cond.onTables, Cond.keeps, Cond.steady])) (hts _ hi))
  intro T hT X
  obtain ⟨mk, methM, cM, hnamed, hmethM, -, -, -, -, -, -, hsigM⟩ := Cond.codeWith_spec (hts _ hc)
  have hstatic : methM.isStatic = true := Cond.static_spec hnamed hmethM (hts _ hst)
  obtain ⟨kP, hkP, -⟩ := className_of_methodNamed hnamed
  have hinitP : kP.init = .initialized := Cond.initialized_spec (findClass_of_methodNamed hnamed) hkP (hts _ hi)
  have hlen : As.length = methM.sig.parameters.length := by
    have h2 := hd.2.2
    rw [hsigM] at h2
    exact hn.trans (Option.some.inj h2).symm
  subst hb
  obtain ⟨vm₁, X₁, hstep₁⟩ := X.invokestatic hx ho (hts _ hl) hnamed hmethM hstatic hkP hinitP ⟨hd.1, hd.2.1⟩ (g := F0 m pc ls (As.reverse ++ rest)) rfl (argsL := As) (rest := rest) hlen rfl hdg
  obtain ⟨v, ⟨U', l2, c2, s2⟩, X', ⟨g', mk', t, L, e1, e2, hq, h1, hL, h2, h3⟩, hsteps⟩ := hK m meth c ⟨T.setVm vm₁, locs, cells, slots⟩ { F0 m pc ls (As.reverse ++ rest) with stack := rest } (.invokestatic index) mk As.toArray X₁ rfl (hsize.trans hml.symm) hdg (by show 2 * 0 + (rest.map fun v => v.category).sum ≤ 8; omega) (X₁.named hnamed) ⟨hf.1, hf.2, hp.2 (T.setVm vm₁) hT X₁.warmed⟩
  dsimp only [Pt.U, Pt.locs, Pt.cells, Pt.slots] at X' e1 e2 h1 h2 h3 hsteps
  subst h1; subst h2; subst h3
  exact ⟨v, (T.setVm vm₁).calling g' mk' As.toArray, t, U', L, hT, X', hL, e1, e2, hq, fun target h => hstep₁ _ fun acts => by rw [doInvoke_state]; exact hsteps.trans h⟩
end EX7
