section RB3
variable {p : Program} {l : Launch} {e : Env} {R : Room} {s : State} {m : MethodId} {args : Array Value} {below : List Frame} {meth : Method} {c : Code} {H : Heap} {locs : List Loc} {cells slots : Nat} {Q : State → Prop}
  {Ts ws : List Cond} {cc bytes : ByteArray} {nL maxL index n : Nat} {own C : String} {y : MethodName} {ret : Option FieldType} {rm : Room} {Pc : Array Value → State → Prop}
  {b : Addr} {As rest : List Value} {pc : Nat} {ls : Array Slot} {D : va_G} {A A' : Nat → Prop} {Φ : Mm → Prop} {MC MS : Nat}
/-- a call that throws over the memory, and its handler is the second of the table -/
theorem q_callR (S : CallFix p m c cc nL s args Ts own) {X I : String} (hM : MetR l y ws rm Pc X D A' Φ MC MS) (cw : CallW R s args own C index y bytes maxL ret ws rm MC MS n) (hp : PreV s H C b Pc As) (hn : As.length = n) (hsize : ls.size = nL) (hW : 2 * (F0 m pc ls (As.reverse ++ .ref b :: rest)).monitorRoom + (rest.map fun v => v.category).sum ≤ 8) (hdg : decode cc pc = .ok (.invokevirtual index, 3)) (hf : cells + MC ≤ R.cells ∧ slots + MS ≤ R.slots)
    {x0 x1 : ExceptionTableEntry} {xs : List ExceptionTableEntry} (hxt : c.exceptionTable.toList = x0 :: x1 :: xs) (hcov : covers x0 pc = true) (hc0 : x0.catchType ≠ 0) (hcl0 : (Cond.classLink own x0.catchType I).before args s = true) (hcov1 : covers x1 pc = true) (hc1 : x1.catchType ≠ 0) (hcl : (Cond.classLink own x1.catchType X).before args s = true) (hcast : va_Nw (.castable X X) s)
    (hno : ∀ c1 c2 : ClassId, s.vm.findClass X = some c1 → s.vm.findClass I = some c2 → s.vm.assignable c1 c2 = false)
    (hS : va_S A s.heap H locs) (hFA : ∀ q, A' q → A q)
    (kk : ∀ (x : Nat) (M : Mm) (H1 : Heap) (locs1 : List Loc), Φ M → va_P D classes (mw M) H1 → va_D A (mw M) → va_S A s.heap H1 locs1 → W p l e R s m args below meth c H1 locs1 (cells + MC) (slots + MS) Q (F0 m x1.handlerPc ls [.ref x])) : W p l e R s m args below meth c H locs cells slots Q (F0 m pc ls (As.reverse ++ .ref b :: rest)) := by
  obtain ⟨⟨hrc, hrs, hfr, hlo, hws, hcw, hcode, hini, hy, hlen, hl⟩, hin, hse⟩ := cw
  obtain ⟨hx, hb, hml, ho, -⟩ := S
  obtain ⟨hbl, ⟨cellB, hcB, hoB, hclB⟩, hPc⟩ := hp
  intro T hT Z
  subst hb
  obtain ⟨mk, methM, hnamed, hmethM, hstM, habM⟩ := Cond.instanceMethod_spec hin
  obtain ⟨methM', cM, hmethM', hcM, -, hlM, -, -, -, hsigM⟩ := Cond.code_spec hnamed hcode
  cases hmethM.symm.trans hmethM'
  obtain ⟨c2, r2, m2, q1, q2, q3, q4, kP, hkP, hkPi⟩ := Cond.selects_spec hse
  cases hclB.symm.trans q1
  cases (State.methodFound?_of_named hnamed hy).symm.trans q2
  cases hnamed.symm.trans q3
  have hselP : selectMethod e.platform s.vm cellB.cls mk = .method mk := by rw [Launch.admits_selectMethod Z.admits]; exact q4
  obtain ⟨vm₁, X₁, hstep₁⟩ := Z.invokevirtual hx ho hl hnamed hmethM hstM hkP hkPi hy (a := b) (cell := cellB) (by rw [hT]; exact hcB)
    (fun z h => by rw [h] at hoB; cases hoB) hselP hmethM habM hkP hkPi (g := F0 m pc ls (As.reverse ++ .ref b :: rest)) rfl (argsL := As) (rest := rest) (hn.trans (hlen _ hsigM)) rfl hdg
  have hn₁ := X₁.named hnamed
  generalize hU : T.setVm vm₁ = U at X₁ hstep₁ hn₁
  generalize hg' : ({ F0 m pc ls (As.reverse ++ .ref b :: rest) with stack := rest } : JFrame) = g at hstep₁
  have hgm : g.method = m := by rw [← hg']
  have hgpc : g.pc = pc := by rw [← hg']
  have hUh : U.heap = H := by rw [← hU]; exact hT
  have wd : ∀ w ∈ ws, w.before (Value.ref b :: As).toArray U = true := fun w hw => hws w hw _ _ X₁.warmed
  obtain ⟨kY, hkY, -⟩ := className_of_methodNamed hn₁
  have h3 : (Cond.initialized y.cls).before (Value.ref b :: As).toArray U = true := word_at X₁.warmed (Or.inl (by first | rfl | simp [Cond.onTables, Cond.keeps, Cond.steady])) hini
  have hinitY : kY.init = .initialized := Cond.initialized_spec (findClass_of_methodNamed hn₁) hkY h3
  obtain ⟨methY, cY, hmY, hcY, -, hlY, -⟩ := Cond.code_spec hn₁ (wd _ hcw)
  have h : At U g.method c below := by rw [hgm]; exact X₁.here
  have hsz : g.locals.size = c.maxLocals := by rw [← hg']; exact hsize.trans hml.symm
  have hWg : 2 * g.monitorRoom + (g.stack.map fun v => v.category).sum ≤ 8 := by rw [← hg']; exact hW
  have hdg' : decode c.code g.pc = .ok (.invokevirtual index, 3) := by rw [hgpc]; exact hdg
  have happ : (headSpec ws rm).appliesLoose y e.platform (U.calling g mk (Value.ref b :: As).toArray) = true :=
    Spec.appliesLoose_calling (g := g) h hdg' hn₁ hkY hinitY
      (X₁.room_calling (g := g) (R' := (headSpec ws rm).room) hsz hmY hcY hfr (by rw [hlY]; have : (headSpec ws rm).room.locals = rm.locals := rfl; omega) (by rw [show (headSpec ws rm).room.cells = MC from hrc]; exact hf.1) (by rw [show (headSpec ws rm).room.slots = MS from hrs]; exact hf.2)) (atoms_intro wd)
  obtain ⟨mid, hmid⟩ := h.above
  have hfr2 : (U.setTop g).frames = (.java g :: mid) ++ below := by rw [State.frames_setTop' g h.top, hmid]; rfl
  obtain ⟨o, t, hsteps, -, hend, x, ho', hWt, L, M1, hsame, hSt1, hΦ1, hP1, hD1, ce, hce, hces, hcec⟩ := Steps.callFree hM p X₁.admits X₁.cas X₁.clock (acts := []) hfr2 happ (hbl _ _ _ _ (hPc U hUh X₁.warmed)) trivial
  subst ho'
  rw [State.frames_setTop' g h.top, X₁.tail] at hend
  obtain ⟨T', X', hW', hsame', ht⟩ := X₁.outOfThrown hgm hend hWt hsame
  have hpl : e.platform.magicAccessors = ({} : Platform).magicAccessors := by rw [Z.admits.platform]
  obtain ⟨cI, hcI, hclkI⟩ := Cond.classLink_spec ho hcl0 e.platform hpl
  obtain ⟨hg₁, hwarm₁, -⟩ := State.classEntry (e := e) X'.warmed hclkI
  generalize hvm2 : T'.vm.noted m.cls x0.catchType (.cls cI) = vm₂ at hg₁ hwarm₁
  obtain ⟨cX, hcX, hclk⟩ := Cond.classLink_spec ho hcl e.platform hpl
  obtain ⟨hg₂, hwarm₂, -⟩ := State.classEntry (e := e) hwarm₁ hclk
  generalize hvm3 : vm₂.noted m.cls x1.catchType (.cls cX) = vm₃ at hg₂ hwarm₂
  have hh' : T'.heap = t.heap := by
    rw [ht]; exact (Stand.throwing_heap T' g x).symm
  obtain ⟨c0, t0, f1, f2, f3⟩ := Cond.castable_spec (va_Nw.use (A := args) rfl hcast)
  have eX : c0 = ce.cls := by
    have h1 : s.vm.findClass X = some ce.cls := by
      have h2 : U.vm.findClass X = some ce.cls := hcec
      rw [← (X₁.warmed.alike).findClass X none]; exact h2
    exact Option.some.inj (f1.symm.trans h1)
  cases f1.symm.trans f2
  have eC : cX = c0 := Option.some.inj (hcX.symm.trans f1)
  subst eX
  subst eC
  have hkc : ∃ k, vm₂.classes[ce.cls]? = some k := Vm.classAt_of_findClass (show vm₂.findClass X = some ce.cls by rw [hwarm₁.alike.findClass]; exact f1)
  have hkI : ∃ k, vm₂.classes[cI]? = some k := Vm.classAt_of_findClass (show vm₂.findClass I = some cI by rw [hwarm₁.alike.findClass]; exact hcI)
  have hkc3 : ∃ k, vm₃.classes[ce.cls]? = some k := Vm.classAt_of_findClass (show vm₃.findClass X = some ce.cls by rw [hwarm₂.alike.findClass]; exact f1)
  have hn2 : vm₂.assignable ce.cls cI = false := by rw [hwarm₁.alike.assignable]; exact hno _ _ f1 hcI
  have hfind : ex_find e ((T'.setTop g).pushFrame (.throwing x)) g x x1.handlerPc vm₃ := by
    intro Q E d acts
    obtain ⟨meth', hm', hc'⟩ : ∃ meth', T'.vm.method? g.method = some meth' ∧ meth'.code = some c := by
      have := X'.here.code
      rw [State.code?_eq] at this
      obtain ⟨meth', h1, h2⟩ := Option.bind_eq_some_iff.mp this
      exact ⟨meth', by rw [hgm]; exact h1, h2⟩
    rw [W.findHandler_eq (by rw [Stand.throwing_vm]; exact hm') hc', hxt, ex_go (c := cI) (cell := ce) (vm' := vm₂) (by rw [hgpc]; exact hcov) hc0 (by rw [hgm, Stand.throwing_vm]; exact hg₁) (by rw [Stand.throwing_vm, ← hvm2]; no_record) (by rw [Stand.throwing_heap, hh']; exact hce) (fun k hk => by rw [hk] at hces; cases hces) hkc hkI, if_neg (by rw [hn2]; decide)]
    rw [ex_go (s := ((T'.setTop g).pushFrame (.throwing x)).setVm vm₂) (c := ce.cls) (cell := ce) (vm' := vm₃) (by rw [hgpc]; exact hcov1) hc1 (by rw [hgm]; exact hg₂) (by show vm₃.classes.size ≤ vm₂.classes.size; rw [← hvm3]; no_record) (by show ((T'.setTop g).pushFrame (.throwing x)).heap[x]? = some ce; rw [Stand.throwing_heap, hh']; exact hce) (fun k hk => by rw [hk] at hces; cases hces) hkc3 hkc3, if_pos (by rw [hwarm₂.alike.assignable]; exact f3)]
    exact Iff.rfl
  have X₂ := X'.noted hwarm₂
  have hzz : va_S A s.heap t.heap (locs ++ L) := by
    obtain ⟨z1, z2, z3⟩ := hSt1
    have z1' : H.size ≤ t.heap.size := by rw [← hUh]; exact z1
    refine ⟨Nat.le_trans hS.1 z1', fun q q1 q2 => ?_, fun a ha => ?_⟩
    · have e1 : t.heap[q]? = U.heap[q]? := z2 q (by show q < U.heap.size; rw [hUh]; exact Nat.lt_of_lt_of_le q1 hS.1) (fun h => q2 (hFA q h))
      rw [e1, hUh]
      exact hS.2.1 q q1 q2
    · rcases List.mem_append.mp ha with h | h
      · exact hS.2.2 a h
      · exact hFA _ (z3 a h)
  obtain ⟨u, a1, b1⟩ := kk x M1 t.heap (locs ++ L) hΦ1 hP1 (hD1.weaken (fun _ _ _ h => hFA _ h)) hzz (T'.setVm vm₃) hh' X₂
  refine ⟨u, hstep₁ _ (fun acts => ?_), b1⟩
  rw [doInvoke_state]
  refine hsteps.trans ?_
  rw [ht]
  refine ex_caught (by rw [hgm]; exact X'.here) hfind ?_
  have : ({ g with pc := x1.handlerPc, stack := [.ref x] } : JFrame) = F0 m x1.handlerPc ls [.ref x] := by rw [← hg']
  rw [this]
  exact a1
theorem ex_tab2 {k0 k1 k2 k3 j0 j1 j2 j3 : Nat} (h : c.exceptionTable.toList.map (fun h => (h.startPc, h.endPc, h.handlerPc, h.catchType)) = [(k0, k1, k2, k3), (j0, j1, j2, j3)]) : ∃ x0 x1 xs, c.exceptionTable.toList = x0 :: x1 :: xs ∧ (x0.startPc = k0 ∧ x0.endPc = k1 ∧ x0.handlerPc = k2 ∧ x0.catchType = k3) ∧ x1.startPc = j0 ∧ x1.endPc = j1 ∧ x1.handlerPc = j2 ∧ x1.catchType = j3 := by
  rcases hc : c.exceptionTable.toList with _ | ⟨x0, _ | ⟨x1, xs⟩⟩
  · rw [hc] at h; cases h
  · rw [hc] at h; cases h
  · rw [hc, List.map_cons, List.map_cons] at h
    have h1 := (List.cons.inj h).1
    have h2 := (List.cons.inj (List.cons.inj h).2).1
    simp only [Prod.mk.injEq] at h1 h2
    exact ⟨x0, x1, xs, rfl, h1, h2⟩
end RB3
def PrN (D : va_G) (cy : Nat → ClassId) (ad : Nat → Nat) (mi : Nat) (wc : va_W) (sz : Nat) (U : State) : Prop := PrM D cy ad mi wc sz U ∧ NC U
section RB4
variable {l : Launch} {cc : ByteArray} {D : va_G} {cy : Nat → ClassId} {ad : Nat → Nat} {mi : Nat} {wc : va_W} {mc ms nL : Nat} {own : String} {y : MethodName} {ret : Option FieldType} {rm : Room} {hh : List (Nat × Nat × Nat × Nat)}
theorem q_metNW {nm : String} {av : List Value} {Qd : (Nat → Prop) → Array Value → State → Outcome → State → Prop} (hy : plainName y.cls = true) (hown : y.cls = own) (hnm : y.name = nm) (hlen : (lg_sl av).length ≤ nL)
    (body : ∀ (p : Program) (e : Env) (s : State) (m : MethodId) (below : List Frame) (meth : Method) (c : Code) (ls : Array Slot), FxMW p s m av.toArray meth c cc nL own nm ret D cy ad mi (va_A wc s.heap.size) hh → NC s → va_P D classes wc s.heap → va_D (va_A wc s.heap.size) wc → va_S (va_A wc s.heap.size) s.heap s.heap [] → lv_has ls nL (lv_args 0 av) → W p l e rm s m av.toArray below meth c s.heap [] 0 0 (MQ below (Qd (va_A wc s.heap.size)) av.toArray s mc ms (va_A wc s.heap.size)) (F0 m 0 ls []))
    (sz : Nat) : Met l y (.codeWith y cc nL ret hh :: gw) rm (va_Pc av (PrN D cy ad mi wc sz)) (Qd (va_A wc sz)) mc ms (va_A wc sz) := by
  refine va_MetW (cc := cc) (maxL := nL) (ret := ret) (hh := hh) hy rfl ?_
  intro p e s m args below meth c s₁ B hml hv
  obtain ⟨rfl, ⟨⟨hsz, hP, hK, hD0, hSt⟩, hT, hMi⟩, hN⟩ := hv
  subst hsz
  subst hown
  subst hnm
  have hts := atoms_spec (ws := .codeWith y cc nL ret hh :: gw) B.pre
  have hl := lv_entry av (n := nL) hlen
  obtain ⟨m9, meth9, c9, hn9, hm9, hc9, -, -, hx9, -⟩ := Cond.codeWith_spec (hts _ List.mem_cons_self)
  cases B.named.symm.trans hn9
  cases B.method.symm.trans hm9
  have hc0 := (Stand.of_body B).code
  cases hc0.symm.trans hc9
  rw [lg_entry_eq]
  exact body p e s m below meth c _ ⟨⟨B.exec, B.bytes, B.returns, hml, findClass_of_methodNamed B.named, fun w h => hts w (List.mem_cons_of_mem _ h), B.notSynchronized, hK, fun q h => Or.inr h, hSt, (name_of_methodNamed B.named B.method).1, hx9, hT⟩, hMi⟩ hN hP hD0.self va_S.rf hl
theorem q_preN {s : State} {A : Nat → Prop} {H : Heap} {locs : List Loc} (hP : va_P D classes wc H) (hD : va_D A wc) (hK : va_K D classes (tyl cy) s) (hSt : St ad A s s.heap) (hT : Th A s s.heap) (hMi : va_Mi "[Ljava/lang/Object;" mi s) (hNC : NC s) (hS : va_S A s.heap H locs) (hF : ∀ q, va_A wc H.size q → A q) (As : List Value) : PreS s H (va_Pc As (PrN D cy ad mi wc H.size)) As := by
  obtain ⟨h1, h2⟩ := q_preM hP hD hK hSt hT hMi hS hF As
  refine ⟨fun a U g mk q => ?_, fun U hU hW => ⟨rfl, (h2 U hU hW).2, hNC.moved hW.alike⟩⟩
  obtain ⟨q0, q1, q2⟩ := q
  exact ⟨q0, (h1 a U g mk ⟨q0, q1⟩).2, NC.moved (u := U) (U := U.calling g mk a) (Vm.Alike.refl U.vm) q2⟩
end RB4
theorem d_L_unspent_14x : decode b_L_unspent 14 = .ok (.astore_n 3, 1) := by decide +kernel
theorem d_L_unspent_15x : decode b_L_unspent 15 = .ok (.iconst 2, 1) := by decide +kernel
theorem d_L_unspent_16x : decode b_L_unspent 16 = .ok (.ireturn, 1) := by decide +kernel
set_option maxHeartbeats 8000000 in
set_option maxRecDepth 100000 in
theorem wew_mL_unspent2 {p : Program} {l : Launch} {e : Env} {s : State} {m : MethodId} {args : Array Value} {below : List Frame} {meth : Method} {c : Code} {D : va_G} {cy : Nat → ClassId} {A : Nat → Prop} {ad : Nat → Nat} {mi MC MS : Nat} {Φ : Int32 → Mm → Prop} {fu : Nat} (hlt : ∀ e, l.admits e → e.platform.stackTraces = false) (F : FxMW p s m args meth c b_L_unspent 4 "CoinKeeperLaw" "unspent" (some .int) D cy ad mi A [(0, 8, 11, 19), (0, 8, 14, 39)]) (hN : NC s) {M : Mm} {a0 : Nat} {a1 : Int32} {a2 : Nat} (hf : xo_mK_unspent fu MC MS cy ad mi Φ 0 0 M a0 a1) {H : Heap} {locs : List Loc} {ls : Array Slot} (hP : va_P D classes (mw M) H) (hD : va_D A (mw M)) (hS : va_S A s.heap H locs) (hl : lv_has ls 4 [(0, .ref a0), (1, .int a1), (2, .ref a2)]) : W p l e (rmw_mL_unspent MC MS) s m args below meth c H locs 0 0 (MQ below (va_Qi Φ (fun u t => Po D cy A (mw u) t) A) args s MC MS A) (F0 m 0 ls []) := by
  obtain ⟨⟨hx, hb, hr, hml, hown, hts, hlocks, hK, hA, hSt, hnm, hxt, hT⟩, hMi⟩ := id F
  refine lv_aload_n hx hb d_L_unspent_0 rfl (lv_at hl 2 rfl) ?_
  refine lv_iconst (v := 0) hx hb d_L_unspent_1 (by decide) ?_
  refine lv_aload_n hx hb d_L_unspent_2 rfl (lv_at hl 0 rfl) ?_
  refine lv_iload_n hx hb d_L_unspent_3 rfl (lv_at hl 1 rfl) ?_
  obtain ⟨fs_, hm_, -⟩ := id hf
  obtain ⟨ix_, hi_⟩ := m_ix hm_
  obtain ⟨x0, x1, xs, hx0, ⟨k0, k1, k2, k3⟩, j0, j1, j2, j3⟩ := ex_tab2 hxt
  refine q_callR (A := A) (C := "CoinKeeper") (I := "java/lang/IllegalArgumentException") (As := [.int a1]) (rest := [.int (0 : Int32), .ref a2]) ⟨hx, hb, hml, hown, hts⟩ (tn_mK_unspent_N l hlt D cy ad mi fu MC MS a0 a1 M Φ hf H.size) ⟨q_cB hts gw_1313 gw_1 gw_1310 hdt_109 ⟨Nat.le_of_ble_eq_true rfl, Nat.le_of_ble_eq_true rfl⟩, hts _ gw_1311, hts _ gw_1312⟩ (q_preVM (q_preM hP hD hK hSt hT hMi hS (m_free hD hS hA) _) (va_recv hK hP (ci := 0) (q0 := ix_) rfl hi_)) rfl hl.1 (by show 2 * 0 + (1 + (1 + 0)) ≤ 8; omega) d_L_unspent_4 ⟨by show 0 + MC ≤ MC; omega, by show 0 + MS ≤ MS; omega⟩ hx0 (by simp [covers, k0, k1]) (by rw [k3]; decide) (by rw [k3]; exact hts _ gw_646) (by simp [covers, j0, j1]) (by rw [j3]; decide) (by rw [j3]; exact hts _ gw_1309) (hSt.2.1 _ (List.mem_of_getElem? (i := 22) rfl)) hN hS (m_free hD hS hA) (fun thx M1 H locs hf hP hD hS => ?_)
  rw [j2]
  obtain ⟨fs1, hm1, hf⟩ := hf
  refine lv_astore_n (lv' := [(3, .ref thx), (0, .ref a0), (1, .int a1), (2, .ref a2)]) hx hb d_L_unspent_14x rfl hl (by decide) rfl (fun ls hl => ?_)
  refine lv_iconst (v := 2) hx hb d_L_unspent_15x (by decide) ?_
  refine W.widen (k := MC) (n := MS) (by omega) (by omega) ?_
  exact m_ri hf hx hb hr hlocks hK hP hD hS d_L_unspent_16x
theorem cw_mL_unspent2 (l : Launch) (hlt : ∀ e, l.admits e → e.platform.stackTraces = false) (D : va_G) (cy : Nat → ClassId) (ad : Nat → Nat) (mi fu MC MS : Nat) (a0 : Nat) (a1 : Int32) (a2 : Nat) (M : Mm) (Φ : Int32 → Mm → Prop) (hf : xw_mL_unspent2 fu MC MS cy ad mi Φ 0 0 M a0 a1 a2) (sz : Nat) : Met l ({ cls := "CoinKeeperLaw", name := "unspent", desc := "(LCoinKeeper;I[J)I" } : Jvm.MethodName) (.codeWith ({ cls := "CoinKeeperLaw", name := "unspent", desc := "(LCoinKeeper;I[J)I" } : Jvm.MethodName) b_L_unspent 4 (some .int) [(0, 8, 11, 19), (0, 8, 14, 39)] :: gw) (rmw_mL_unspent MC MS) (va_Pc [.ref a0, .int a1, .ref a2] (PrN D cy ad mi (mw M) sz)) (va_Qi Φ (fun u t => Po D cy (va_A (mw M) sz) (mw u) t) (va_A (mw M) sz)) MC MS (va_A (mw M) sz) :=
  q_metNW (Qd := fun A => va_Qi Φ (fun u t => Po D cy A (mw u) t) A) (by decide) rfl rfl (Nat.le_of_ble_eq_true rfl) (fun p e s m below meth c ls F hN hP hD hS hl => by
    rcases hf with hf | hf
    · exact wew_mL_unspent (fu := fu) hlt F 0 0 M a0 a1 a2 hf (Nat.zero_le _) (Nat.zero_le _) _ _ _ hP hD hS hl
    · exact wew_mL_unspent2 (fu := fu) hlt F hN hf hP hD hS hl) sz
