-- the second throw of unspent: a throw behind a walk that has moved the heap, and a second handler
section RB1
variable {p : Program} {l : Launch} {e : Env} {R R' : Room} {s : State} {m : MethodId} {args : Array Value} {below : List Frame} {meth : Method} {c : Code} {T : State} {H : Heap} {locs : List Loc} {cells slots : Nat}
/-- a walk may take its present place for its beginning -/
theorem rb_stand (X : Stand p l e R s m args below meth c T locs cells slots) (h1 : R'.frames ≤ R.frames) (h2 : R'.locals ≤ R.locals) (h3 : cells + R'.cells ≤ R.cells) (h4 : slots + R'.slots ≤ R.slots) :
    Stand p l e R' (T.setFrames (.invoking m args :: below)) m args below meth c T [] 0 0 := by
  obtain ⟨g₀, hf⟩ := X.frames_eq
  obtain ⟨th, hth, -⟩ := State.frames_cons hf
  have hcur : T.cur < T.threads.size := State.cur_lt_of_frames hf
  have hF : (T.setFrames (.invoking m args :: below)).frames = .invoking m args :: below := State.frames_setFrames _ hcur
  have hm : (T.setFrames (.invoking m args :: below)).vm.method? m = some meth := X.method'
  refine ⟨X.admits, X.cas, X.clock, hF, ?_, ?_, hm, X.code, X.here, X.tail, State.WarmedH.refl (T.setFrames (.invoking m args :: below)), (State.stackLimits_setFrames _ _ _).symm, (State.stackBytes_setFrames _ _).symm, ?_⟩
  · have hR := X.room
    have hb : (T.setFrames (.invoking m args :: below)).slotsTrue = true := X.book
    have hh : (T.setFrames (.invoking m args :: below)).heap.size ≤ s.heap.size + cells := X.heapSize
    have hu : (T.setFrames (.invoking m args :: below)).slotsUsed ≤ s.slotsUsed + slots := X.used
    have l1 := State.localsInUse_invoking X.frames X.method X.code
    have l2 := State.localsInUse_invoking hF hm X.code
    simp only [State.hasRoom, Bool.and_eq_true, decide_eq_true_eq] at hR ⊢
    obtain ⟨⟨⟨⟨r1, r2, r3, r4, r5, r6⟩, r7⟩, r8⟩, r9⟩ := hR
    rw [l1] at r1 r4 r5
    rw [X.frames] at r2 r3
    rw [l2, hF, State.stackLimits_setFrames, X.limits, State.stackBytes_setFrames, X.bytes]
    exact ⟨⟨⟨⟨by omega, by omega, by omega, by omega, by omega, r6⟩, by omega⟩, by omega⟩, hb⟩
  · have hcd : ∀ m', (T.setFrames (.invoking m args :: below)).code? m' = s.code? m' := fun m' => by
      rw [State.code?_eq, State.code?_eq]
      show (T.vm.method? m').bind _ = _
      rw [X.warmed.alike.method?]
    have hmm : (T.setFrames (.invoking m args :: below)).vm.method? m = s.vm.method? m := X.warmed.alike.method? m
    have key : ∀ bl : List Frame, s.hears m bl = true → (T.setFrames (.invoking m args :: below)).hears m bl = true := by
      intro bl h
      cases bl with
      | nil => simp only [State.hears] at h ⊢; rw [hmm]; exact h
      | cons fr bl =>
        cases fr <;> simp only [State.hears] at h ⊢ <;> first | (rw [hcd]; exact h) | (rw [hmm]; exact h)
    exact key _ X.hears
  · obtain ⟨t2, ht2, -⟩ := State.frames_cons hF
    have h := (State.sameButNew.refl (T.setFrames (.invoking m args :: below)) ht2).setFrames T.frames (State.cur_lt_of_frames hF)
    rw [State.setFrames_setFrames, State.setFrames_self hth] at h
    exact h
/-- what a method leaves that throws a new object of kind C over the memory M -/
def TQR (C : String) (D : va_G) (A : Nat → Prop) (Φ : Mm → Prop) (MC MS : Nat) (st t : State) (x : Nat) : Prop := st.WarmedH t.vm ∧ ∃ (L : List Loc) (M : Mm), st.sameButNew ({ t with vm := st.vm } : State) L MC MS ∧ va_S A st.heap t.heap L ∧ Φ M ∧ va_P D classes (mw M) t.heap ∧ va_D A (mw M) ∧ ∃ ce : Cell, t.heap[x]? = some ce ∧ ce.vm.isStatics = false ∧ st.vm.findClass C = some ce.cls
def MQR (below : List Frame) (C : String) (D : va_G) (A : Nat → Prop) (Φ : Mm → Prop) (MC MS : Nat) (s : State) : State → Prop := fun t => ∃ x, t.status = .running ∧ Ended t below (.threw x) ∧ TQR C D A Φ MC MS s t x
def MetR (l : Launch) (y : MethodName) (ws : List Cond) (rm : Room) (Pc : Array Value → State → Prop) (C : String) (D : va_G) (A : Nat → Prop) (Φ : Mm → Prop) (MC MS : Nat) : Prop := MetFree l y (headSpec ws rm) Pc (fun _ _ _ _ _ => True) (fun _ st o t => ∃ x, o = .threw x ∧ TQR C D A Φ MC MS st t x)
theorem sbn_widen {s t : State} {L : List Loc} {k n k' n' : Nat} (h : s.sameButNew t L k n) (h1 : k ≤ k') (h2 : n ≤ n') : s.sameButNew t L k' n' := by
  obtain ⟨a1, a2, a3, a4, a5, a6⟩ := h
  exact ⟨a1, a2, by omega, a4, by omega, a6⟩
theorem sbn_old {s t : State} {k n : Nat} (h : s.sameButNew t [] k n) (q : Nat) (hq : q < s.heap.size) : t.heap[q]? = s.heap[q]? := by
  obtain ⟨-, -, -, -, -, hk⟩ := h
  obtain ⟨c', k1, k2, k3, k4⟩ := hk q s.heap[q] (Array.getElem?_eq_getElem hq)
  have e1 : c'.slots = s.heap[q].slots := by
    apply Array.ext k3
    intro i hi1 hi2
    have := k4 i (fun hmem => nomatch hmem)
    rw [Array.getElem?_eq_getElem hi1, Array.getElem?_eq_getElem hi2] at this
    exact Option.some.inj this
  have e2 : c' = s.heap[q] := by rw [k2, e1]
  rw [k1, e2, Array.getElem?_eq_getElem hq]
theorem q_throwR {cc : ByteArray} {own X : String} {names : List String} {ci ic pc nL : Nat} {ls : Array Slot} {D : va_G} {ad : Nat → Nat} {A : Nat → Prop} {M : Mm} {Φ : Mm → Prop} {MC MS : Nat} (hlt : ∀ e, l.admits e → e.platform.stackTraces = false) (hx : p.tables.exec = Jvm.exec) (hb : c.code = cc) (hml : c.maxLocals = nL) (hsz : ls.size = nL) (hlocks : meth.locks = false) (hown : s.vm.findClass own = some m.cls) (hfit : Bundle.fit X = true) (hnames : ∀ n ∈ names, Bundle.fit n = true)
    (hts : ∀ w ∈ gw, w.before args s = true) (hSt : St ad A s s.heap) (hTh : Th A s s.heap) (hat : ∀ U : State, (∀ w ∈ gw, w.before args U = true) → St ad A U U.heap → Th A U U.heap → ∀ a ∈ Bundle.ownAtoms0 own ic X names, a.before args U = true) (hclink : Cond.classLink own ci X ∈ gw) (hinit : Cond.initialized X ∈ gw) (hex : c.exceptionTable.isEmpty = true) (hR3 : names.length + 3 < R.frames) (hR4 : 1 + (13 * (names.length + 1) + 41) ≤ R.locals)
    (d0 : decode cc pc = .ok (.new ci, 3)) (d3 : decode cc (pc + 3) = .ok (.dup, 1)) (d4 : decode cc (pc + 4) = .ok (.invokespecial ic, 3)) (d7 : decode cc (pc + 7) = .ok (.athrow, 1))
    (hΦ : Φ M) (hP : va_P D classes (mw M) H) (hD : va_D A (mw M)) (hS : va_S A s.heap H locs) (hc : cells + 1 ≤ MC) (hs : slots + 6 ≤ MS) (hRc : MC ≤ R.cells) (hRs : MS ≤ R.slots) :
    W p l e R s m args below meth c H locs cells slots (MQR below X D A Φ MC MS s) (F0 m pc ls []) := by
  intro T hT Z
  have Z' := rb_stand (R' := { R with cells := 1, slots := 6 }) Z (Nat.le_refl _) (Nat.le_refl _) (by show cells + 1 ≤ _; omega) (by show slots + 6 ≤ _; omega)
  generalize hs' : T.setFrames (.invoking m args :: below) = s' at Z'
  have hvm : s'.vm = T.vm := by rw [← hs']; rfl
  have hhp : s'.heap = H := by rw [← hs']; exact hT
  have hW1 : s.WarmedH s'.vm := by rw [hvm]; exact Z.warmed
  have hts' : ∀ w ∈ gw, w.before args s' = true := fun w hw => pay_in hts gw_good w hw args s' hW1
  have hSt' : St ad A s' s'.heap := by rw [hhp]; exact hSt.call hS (fun _ h => h) hW1
  have hTh' : Th A s' s'.heap := by rw [hhp]; exact hTh.call hS (fun _ h => h) hW1
  have hw := q_throw (R := { R with cells := 1, slots := 6 }) (s := s') (args := args) (below := below) (meth := meth) (c := c) (p := p) (l := l) (e := e) (m := m) (ls := ls) (pc := pc) hlt hx hb hml hsz hlocks (show s'.vm.findClass own = some m.cls by rw [hvm, Z.warmed.alike.findClass]; exact hown) hfit hnames (hat s' hts' hSt' hTh') (hts' _ hclink) (hts' _ hinit) hex (Nat.le_refl _) (Nat.le_refl _) hR3 hR4 d0 d3 d4 d7
  obtain ⟨t, st, x, hrun, hend, hWt, hsame, hxn, ce, hce, hces, hcec⟩ := hw T (by rw [hhp]; exact hT) Z'
  refine ⟨t, st, x, hrun, hend, ?_, locs, M, ?_, ?_, hΦ, ?_, hD, ce, hce, hces, ?_⟩
  · have h2 : T.WarmedH t.vm := by
      subst hs'
      exact hWt
    exact State.WarmedH.trans Z.warmed h2
  · have h1 := Z.same.setFrames (.invoking m args :: below) Z.cur
    have h2 := hsame.setVm s.vm
    subst hs'
    have h3 := h1.trans h2
    rw [List.append_nil] at h3
    exact sbn_widen h3 hc hs
  · have hq : ∀ q, q < H.size → t.heap[q]? = H[q]? := fun q hq => by
      have := sbn_old hsame q (by rw [hhp]; exact hq)
      rw [hhp] at this
      exact this
    have hsz2 : H.size ≤ t.heap.size := by
      have := hsame.2.1
      rw [hhp] at this
      exact this
    exact ⟨Nat.le_trans hS.1 hsz2, fun q q1 q2 => (hq q (Nat.lt_of_lt_of_le q1 hS.1)).trans (hS.2.1 q q1 q2), hS.2.2⟩
  · have hq : ∀ q, q < H.size → t.heap[q]? = H[q]? := fun q hq => by
      have := sbn_old hsame q (by rw [hhp]; exact hq)
      rw [hhp] at this
      exact this
    exact hP.kept (fun i y hy => hq y.1 ((hP i y hy).lt))
  · have h1 : T.vm.findClass X = some ce.cls := by rw [← hvm]; exact hcec
    rw [← h1]
    exact (Z.warmed.alike.findClass X none).symm
end RB1
abbrev rm_R (MC MS : Nat) : Room := { frames := 6, cells := MC, slots := MS, locals := 90 }
section RB2
variable {l : Launch} {cc : ByteArray} {D : va_G} {cy : Nat → ClassId} {ad : Nat → Nat} {mi : Nat} {wc : va_W} {MC MS : Nat} {Φ : Mm → Prop}
theorem q_metRM {y : MethodName} {nL : Nat} {rt : Option FieldType} {own X : String} {av : List Value} (hy : plainName y.cls = true) (hown : y.cls = own) {nm : String} (hnm : y.name = nm) (hlen : (lg_sl av).length ≤ nL)
    (body : ∀ (p : Program) (e : Env) (s : State) (m : MethodId) (below : List Frame) (meth : Method) (c : Code) (ls : Array Slot), FxM p s m av.toArray meth c cc nL own nm rt D cy ad mi (va_A wc s.heap.size) → va_P D classes wc s.heap → va_D (va_A wc s.heap.size) wc → va_S (va_A wc s.heap.size) s.heap s.heap [] → lv_has ls nL (lv_args 0 av) → W p l e (rm_R MC MS) s m av.toArray below meth c s.heap [] 0 0 (MQR below X D (va_A wc s.heap.size) Φ MC MS s) (F0 m 0 ls []))
    (sz : Nat) : MetR l y (.code y cc nL rt :: gw) (rm_R MC MS) (va_Pc av (PrM D cy ad mi wc sz)) X D (va_A wc sz) Φ MC MS := by
  refine MetFree.of_bodyS (code := cc) (maxLocals := nL) (ret := rt) hy ?_ ?_
  · intro args s m h hn
    obtain ⟨meth, c, h1, h2, h3, h4, h5, h6, -, -⟩ := Cond.code_spec hn (atoms_spec (ws := .code y cc nL rt :: gw) h _ List.mem_cons_self)
    exact ⟨meth, c, h1, h2, h3, h4, h5, h6⟩
  · intro p e s m args below meth c s₁ B hml hv _
    have hh0 : s₁.heap = s.heap := by rw [B.state]; rfl
    obtain ⟨rfl, ⟨hsz, hP, hK, hD0, hSt⟩, hT, hMi⟩ := hv
    subst hsz
    subst hown
    subst hnm
    have hts := atoms_spec (ws := .code y cc nL rt :: gw) B.pre
    have hl := lv_entry av (n := nL) hlen
    have hw := body p e s m below meth c _ ⟨⟨B.exec, B.bytes, B.returns, hml, findClass_of_methodNamed B.named, fun w h => hts w (List.mem_cons_of_mem _ h), B.notSynchronized, hK, fun q h => Or.inr h, hSt, (name_of_methodNamed B.named B.method).1, B.noHandlers (hts _ List.mem_cons_self)⟩, hT, hMi⟩ hP hD0.self va_S.rf hl
    rw [← lg_entry_eq] at hw
    obtain ⟨t, a1, x, b1, b2, b3⟩ := hw s₁ hh0 (Stand.of_body B)
    exact ⟨t, .threw x, a1, b1, b2, x, rfl, b3⟩
end RB2
/-- what is thrown second is not what the first handler takes -/
def NC (U : State) : Prop := ∀ c1 c2 : ClassId, U.vm.findClass "java/util/NoSuchElementException" = some c1 → U.vm.findClass "java/lang/IllegalArgumentException" = some c2 → U.vm.assignable c1 c2 = false
theorem NC.moved {u U : State} (hvm : u.vm.Alike U.vm) (h : NC u) : NC U := fun c1 c2 h1 h2 => by
  rw [hvm.assignable]
  exact h c1 c2 (by rw [← hvm.findClass _ none]; exact h1) (by rw [← hvm.findClass _ none]; exact h2)
set_option maxRecDepth 100000 in
theorem tn_mK_unspent_N (l : Launch) (hlt : ∀ e, l.admits e → e.platform.stackTraces = false) (D : va_G) (cy : Nat → ClassId) (ad : Nat → Nat) (mi fu MC MS : Nat) (a0 : Nat) (a1 : Int32) (M : Mm) (Φ : Int32 → Mm → Prop) (hf : xo_mK_unspent fu MC MS cy ad mi Φ 0 0 M a0 a1) (sz : Nat) : MetR l ({ cls := "CoinKeeper", name := "unspent", desc := "(I)J" } : Jvm.MethodName) (.code ({ cls := "CoinKeeper", name := "unspent", desc := "(I)J" } : Jvm.MethodName) b_K_unspent 3 (some .long) :: gw) (rm_R MC MS) (va_Pc [.ref a0, .int a1] (PrM D cy ad mi (mw M) sz)) "java/util/NoSuchElementException" D (va_A (mw M) sz) (fun u => mck u a0 0 (Φ 2 u)) MC MS := by
  refine q_metRM (by decide) rfl rfl (Nat.le_of_ble_eq_true rfl) (fun p e s m below meth c ls F hP hD hS hl => ?_) sz
  obtain ⟨⟨hx, hb, hr, hml, hown, hts, hlocks, hK, hA, hSt, hnm, hex⟩, hT, hMi⟩ := id F
  unfold xo_mK_unspent at hf
  obtain ⟨fs0, hm0, hf⟩ := hf
  refine lv_aload_n hx hb d_K_unspent_0 rfl (lv_at hl 0 rfl) ?_
  obtain ⟨fs_, hm_, v1, hv_, hv1, hf⟩ := hf
  obtain ⟨ix_, hi_⟩ := m_ix hm_
  refine va_get (D := D) (ci := 0) (v := .int v1) (C := "CoinKeeper") (T := F_0) (N := 13) hx hb hts i_0 hown hK hP ix_ hi_ rfl 1 (by decide) (hts _ gw_501) (fun _ h9 => h9) hv_ d_K_unspent_1 ?_
  clear hv_ hi_ hm_
  refine lv_bipush (v := 32) hx hb d_K_unspent_4 (by decide) ?_
  refine lv_icmp_eq (tgt := 17) hx hb d_K_unspent_6 (by decide) (fun cx => ?_) (fun cx => ?_)
  · refine lv_aload_n hx hb d_K_unspent_17 rfl (lv_at hl 0 rfl) ?_
    obtain ⟨fs_, hm_, r2, hv_, hf⟩ := hf
    obtain ⟨ix_, hi_⟩ := m_ix hm_
    refine va_get (D := D) (ci := 0) (v := va_rf r2) (C := "CoinKeeper") (T := F_0) (N := 13) hx hb hts i_0 hown hK hP ix_ hi_ rfl 7 (by decide) (hts _ gw_507) (fun _ h9 => h9) hv_ d_K_unspent_18 ?_
    clear hv_ hi_ hm_
    obtain ⟨q3, rfl, hf⟩ := hf
    refine W.eq (g2 := F0 m 21 ls [.ref q3]) rfl ?_
    refine lv_aload_n hx hb d_K_unspent_21 rfl (lv_at hl 0 rfl) ?_
    obtain ⟨fs_, hm_, r4, hv_, hf⟩ := hf
    obtain ⟨ix_, hi_⟩ := m_ix hm_
    refine va_get (D := D) (ci := 0) (v := va_rf r4) (C := "CoinKeeper") (T := F_0) (N := 13) hx hb hts i_0 hown hK hP ix_ hi_ rfl 0 (by decide) (hts _ gw_500) (fun _ h9 => h9) hv_ d_K_unspent_22 ?_
    clear hv_ hi_ hm_
    obtain ⟨q5, rfl, hf⟩ := hf
    refine W.eq (g2 := F0 m 25 ls [.ref q5, .ref q3]) rfl ?_
    refine lv_iconst (v := 0) hx hb d_K_unspent_25 (by decide) ?_
    refine lv_iload_n hx hb d_K_unspent_26 rfl (lv_at hl 1 rfl) ?_
    obtain ⟨fs_, hm_, hf⟩ := hf
    obtain ⟨ix_, hi_⟩ := m_ix hm_
    obtain ⟨mc6, ms7, ⟨hc_, hd_⟩, hf⟩ := hf
    refine m_aq (va_runV (C := "CoinKeeper$Ledger") (As := [.ref q5, .int (0 : Int32), .int a1]) (rest := []) ⟨hx, hb, hml, hown, hts⟩ (cw_mLe_find l D cy ad mi fu mc6 ms7 q3 q5 (0 : Int32) a1 M _ hf s.heap.size) ⟨q_cB hts gw_934 gw_9 gw_931 hdq_22 ⟨Nat.le_of_ble_eq_true rfl, Nat.le_of_ble_eq_true rfl⟩, hts _ gw_932, hts _ gw_933⟩ (q_preVM (q_preM hP hD hK hSt hT hMi hS (m_free hD hS hA) _) (va_recv hK hP (ci := 5) (q0 := ix_) rfl hi_)) rfl rfl hl.1 rfl (lv_room (Nat.le_of_ble_eq_true rfl)) d_K_unspent_27 ⟨by show 0 + mc6 ≤ MC; omega, by show 0 + ms7 ≤ MS; omega⟩) hD hS hA (fun v9 M8 H locs hf hP hD hS => ?_)
    obtain ⟨rfl, hf⟩ := hf
    refine W.eq (g2 := F0 m 30 ls [.null]) rfl ?_
    refine lv_astore_nN (lv' := [(2, .null), (0, .ref a0), (1, .int a1)]) hx hb d_K_unspent_30 rfl hl (by decide) rfl (fun ls hl => ?_)
    refine lv_aload_nN hx hb d_K_unspent_31 rfl (lv_at hl 0 rfl) ?_
    refine lv_ifnonnullN hx hb d_K_unspent_32 ?_
    exact q_throwR (Φ := fun u => mck u a0 0 (Φ 2 u)) (ad := ad) hlt hx hb hml hl.1 hlocks hown (by decide +kernel) (by decide +kernel) hts hSt hT (fun U h1 h2 h3 => ow_n h1 h2.2.1 h3) gw_1314 gw_29 hex (by show 2 + 3 < 6; omega) (by show 1 + (13 * (2 + 1) + 41) ≤ 90; omega) d_K_unspent_35 d_K_unspent_38 d_K_unspent_39 d_K_unspent_42 hf hP hD hS (by omega) (by omega) (Nat.le_refl _) (Nat.le_refl _)
  · exact absurd hv1 cx
