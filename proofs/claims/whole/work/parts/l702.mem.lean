def PrM (D : va_G) (cy : Nat → ClassId) (ad : Nat → Nat) (mi : Nat) (wc : va_W) (sz : Nat) (U : State) : Prop := Pr D cy ad wc sz U ∧ Th (va_A wc sz) U U.heap ∧ va_Mi "[Ljava/lang/Object;" mi U
def FxM (p : Program) (s : State) (m : MethodId) (args : Array Value) (meth : Method) (c : Code) (cc : ByteArray) (nL : Nat) (own nm : String) (rt : Option FieldType) (D : va_G) (cy : Nat → ClassId) (ad : Nat → Nat) (mi : Nat) (A : Nat → Prop) : Prop := Fx p s m args meth c cc nL own nm rt D cy ad A ∧ Th A s s.heap ∧ va_Mi "[Ljava/lang/Object;" mi s
section M8
variable {l : Launch} {cc : ByteArray} {D : va_G} {cy : Nat → ClassId} {ad : Nat → Nat} {mi : Nat} {wc : va_W} {mc ms : Nat}
theorem q_metM {y : MethodName} {nL : Nat} {rt : Option FieldType} {own : String} {rm : Room} {av : List Value} {Qc : (Nat → Prop) → Array Value → State → Outcome → State → Prop} (hy : plainName y.cls = true) (hown : y.cls = own) {nm : String} (hnm : y.name = nm) (hlen : (lg_sl av).length ≤ nL)
    (body : ∀ (p : Program) (e : Env) (s : State) (m : MethodId) (below : List Frame) (meth : Method) (c : Code) (ls : Array Slot), FxM p s m av.toArray meth c cc nL own nm rt D cy ad mi (va_A wc s.heap.size) → va_P D classes wc s.heap → va_D (va_A wc s.heap.size) wc → va_S (va_A wc s.heap.size) s.heap s.heap [] → lv_has ls nL (lv_args 0 av) → W p l e rm s m av.toArray below meth c s.heap [] 0 0 (MQ below (Qc (va_A wc s.heap.size)) av.toArray s mc ms (va_A wc s.heap.size)) (F0 m 0 ls []))
    (sz : Nat) : Met l y (.code y cc nL rt :: gw) rm (va_Pc av (PrM D cy ad mi wc sz)) (Qc (va_A wc sz)) mc ms (va_A wc sz) := by
  refine Met.ofW (cc := cc) (maxL := nL) (ret := rt) hy rfl ?_
  intro p e s m args below meth c s₁ B hml hv
  obtain ⟨rfl, ⟨hsz, hP, hK, hD0, hSt⟩, hT, hMi⟩ := hv
  subst hsz
  subst hown
  subst hnm
  have hts := atoms_spec (ws := .code y cc nL rt :: gw) B.pre
  have hl := lv_entry av (n := nL) hlen
  rw [lg_entry_eq]
  exact body p e s m below meth c _ ⟨⟨B.exec, B.bytes, B.returns, hml, findClass_of_methodNamed B.named, fun w h => hts w (List.mem_cons_of_mem _ h), B.notSynchronized, hK, fun q h => Or.inr h, hSt, (name_of_methodNamed B.named B.method).1, B.noHandlers (hts _ List.mem_cons_self)⟩, hT, hMi⟩ hP hD0.self va_S.rf hl
theorem q_preM {s : State} {A : Nat → Prop} {H : Heap} {locs : List Loc} (hP : va_P D classes wc H) (hD : va_D A wc) (hK : va_K D classes (tyl cy) s) (hSt : St ad A s s.heap) (hT : Th A s s.heap) (hMi : va_Mi "[Ljava/lang/Object;" mi s) (hS : va_S A s.heap H locs) (hF : ∀ q, va_A wc H.size q → A q) (As : List Value) : PreS s H (va_Pc As (PrM D cy ad mi wc H.size)) As := by
  obtain ⟨h1, h2⟩ := q_pre hP hD hK hSt hS hF As
  refine ⟨fun a U g mk q => ?_, fun U hU hW => ⟨rfl, (h2 U hU hW).2, by rw [hU]; exact hT.call hS hF hW, hMi.moved hW.alike⟩⟩
  obtain ⟨q0, q1, q2, q3⟩ := q
  exact ⟨q0, (h1 a U g mk ⟨q0, q1⟩).2, Th.same (u := U) (U := U.calling g mk a) q2 rfl, va_Mi.moved (u := U) (U := U.calling g mk a) (Vm.Alike.refl U.vm) q3⟩
theorem q_preVM {s : State} {H : Heap} {C : String} {b : Addr} {As : List Value} (h : PreS s H (va_Pc (.ref b :: As) (PrM D cy ad mi wc H.size)) (.ref b :: As)) (hr : ∃ cell : Cell, H[b]? = some cell ∧ cell.vm.isStatics = false ∧ s.vm.findClass C = some cell.cls) : PreV s H C b (va_Pc (.ref b :: As) (PrM D cy ad mi wc H.size)) As := ⟨h.1, hr, h.2⟩
/-- the array of objects at a: its kind -/
theorem m_clsO {s : State} {H : Heap} {M : Mm} {a : Nat} {x : vp_A} (hK : va_K D classes (tyl cy) s) (hP : va_P D classes (mw M) H) (h : mat M a (.inl (cy 7, x))) : ∃ cell : Cell, H[a]? = some cell ∧ cell.vm.isStatics = false ∧ s.vm.findClass "[Ljava/lang/Object;" = some cell.cls := by
  obtain ⟨i, hi⟩ := m_ix h
  have h1 : H[a]? = some (vp_cell (cy 7) x) := hP i _ hi
  refine ⟨_, h1, ?_, ?_⟩
  · obtain ⟨n, y⟩ := x
    rcases y with f | f | f | f | f <;> rfl
  · have h2 := va_nmO (nm := "[Ljava/lang/Object;") (hK.2 7 (cy 7, .object "java/lang/Object") rfl).2 (by decide)
    rw [h2]
    obtain ⟨n, y⟩ := x
    rcases y with f | f | f | f | f <;> rfl
end M8
theorem m_elq {D : va_G} {cy : Nat → ClassId} {s : State} {H : Heap} {M : Mm} {ci : Nat} {r : vw_C} (hK : va_K D classes (tyl cy) s) (hP : va_P D classes (mw M) H) (hc : classes[ci]? = some r) {f : Nat → Option Nat} {sp n : Nat} (h : ∀ i : Nat, i < n → ∀ y : Nat, f (sp + i) = some y → ∃ fs, mat M y (.inr (ci, fs))) : ∀ i : Nat, i < n → ∀ y : Nat, f (sp + i) = some y → ∃ cellV : Cell, H[y]? = some cellV ∧ cellV.vm.isStatics = false ∧ s.vm.findClass r.1 = some cellV.cls := by
  intro i hi y hy
  obtain ⟨fs, hm⟩ := h i hi y hy
  obtain ⟨k, hk⟩ := m_ix hm
  exact va_recv hK hP hc hk
theorem m_asg {s : State} {C E : String} (h : va_Nw (.castable C E) s) : ∀ comp c0 : ClassId, s.vm.findClass E = some comp → s.vm.findClass C = some c0 → s.vm.assignable c0 comp = true := by
  intro comp c0 h1 h2
  obtain ⟨a, b, f1, f2, f3⟩ := Cond.castable_spec (va_Nw.use (A := #[]) rfl h)
  cases f1.symm.trans h2
  cases f2.symm.trans h1
  exact f3
theorem m_cfit {cA : ClassId} {n : Nat} {f : Nat → Int32} (h : ∀ i, i < n → fits .byte (.int (f i)) = true) : ∀ (i : Nat) (v : Value), (vp_cell cA (n, .inl f)).slots[i]? = some v → fits .byte v = true := by
  intro i v hv
  have hv' : (arrV cA n (fun j => .int (f j))).slots[i]? = some v := hv
  have hlt : i < n := by
    have := (Array.getElem?_eq_some_iff.mp hv').1
    rw [arrV_size] at this
    exact this
  rw [arrV_read _ _ hlt] at hv'
  cases hv'
  exact h i hlt
/-- a new cell is no static row -/
theorem ad_ne {ad : Nat → Nat} {A : Nat → Prop} {U : State} {H : Heap} {ws : va_W} {q : Nat} {x : va_E} (hSt : St ad A U H) (hD : va_D A (ws ++ [(q, x)])) : q ≠ ad 26 := by
  intro e
  obtain ⟨cell, -, -, -, -, -, -, hn⟩ := (hSt.1 26 _ rfl).2
  have hA : A q := hD.2 ws.length (q, x) (by rw [List.getElem?_append_right (Nat.le_refl _), Nat.sub_self]; rfl)
  exact hn (e ▸ hA)
