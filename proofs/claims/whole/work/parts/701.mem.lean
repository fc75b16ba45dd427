/-- a memory: addresses and what lies there -/
abbrev Mm := List Nat × (Nat → va_E)
abbrev mw (μ : Mm) : va_W := va_pl μ.1 μ.2
def mat (μ : Mm) (a : Nat) (x : va_E) : Prop := a ∈ μ.1 ∧ μ.2 a = x
def mu (μ : Mm) (a : Nat) (x : va_E) : Mm := (μ.1, va_up μ.2 a x)
def mp (μ : Mm) (a : Nat) (x : va_E) : Mm := (μ.1 ++ [a], va_up μ.2 a x)
theorem m_ix {μ : Mm} {a : Nat} {x : va_E} (h : mat μ a x) : ∃ i : Nat, (mw μ)[i]? = some (a, x) := by
  obtain ⟨i, hi⟩ := va_pl_get (X := []) (f := μ.2) h.1
  exact ⟨i, by rw [h.2] at hi; exact hi⟩
theorem m_of {μ : Mm} {i a : Nat} {x : va_E} (h : (mw μ)[i]? = some (a, x)) : mat μ a x := by
  have h1 := List.mem_of_getElem? h
  obtain ⟨b, hb, e⟩ := List.mem_map.mp h1
  cases e
  exact ⟨hb, rfl⟩
theorem m_set {A : Nat → Prop} {μ : Mm} {i a : Nat} {x y : va_E} (hD : va_D A (mw μ)) (h : (mw μ)[i]? = some (a, x)) : (mw μ).set i (a, y) = mw (mu μ a y) := by
  have h1 := m_of h
  have h2 : ([] ++ va_pl μ.1 μ.2)[i]? = some (a, μ.2 a) := by rw [h1.2]; exact h
  exact va_pl_set (X := []) (A := A) hD h1.1 h2
theorem m_push {A : Nat → Prop} {μ : Mm} {q : Nat} {x : va_E} (hD : va_D A (mw μ ++ [(q, x)])) : mw μ ++ [(q, x)] = mw (mp μ q x) := by
  have h : q ∉ μ.1 := va_pl_fresh2 (X := []) (L := μ.1) (f := μ.2) (q := q) (e := x) hD
  exact va_pl_push h
theorem m_self (μ : Mm) {a : Nat} (y : va_E) (h : a ∈ μ.1) : mat (mu μ a y) a y := ⟨h, va_up_self _ _ _⟩
theorem m_ne {μ : Mm} {a b : Nat} {x y : va_E} (h : mat μ b x) (hne : b ≠ a) : mat (mu μ a y) b x := ⟨h.1, (va_up_ne _ _ hne).trans h.2⟩
theorem m_new (μ : Mm) (a : Nat) (y : va_E) : mat (mp μ a y) a y := ⟨List.mem_append_right _ List.mem_cons_self, va_up_self _ _ _⟩
theorem m_old {μ : Mm} {a b : Nat} {x y : va_E} (h : mat μ b x) (hne : b ≠ a) : mat (mp μ a y) b x := ⟨List.mem_append_left _ h.1, (va_up_ne _ _ hne).trans h.2⟩
theorem m_free {A : Nat → Prop} {μ : Mm} {H0 H : Heap} {locs : List Loc} (hD : va_D A (mw μ)) (hS : va_S A H0 H locs) (hA : ∀ q, H0.size ≤ q → A q) : ∀ q, va_A (mw μ) H.size q → A q := by
  intro q h
  rcases h with ⟨k, e, h⟩ | h
  · exact hD.2 k _ h
  · exact hA q (Nat.le_trans hS.1 h)
/-- some cells of a memory, by their addresses -/
def mnd : List Nat → Prop
  | [] => True
  | a :: t => a ∉ t ∧ mnd t
def mal (μ : Mm) : va_W → Prop
  | [] => True
  | x :: t => mat μ x.1 x.2 ∧ mal μ t
theorem mal_at {μ : Mm} : ∀ {w : va_W} {i : Nat} {x : Nat × va_E}, mal μ w → w[i]? = some x → mat μ x.1 x.2
  | [], i, x, _, hx => by simp at hx
  | y :: t, 0, x, h, hx => by
    cases hx
    exact h.1
  | y :: t, i + 1, x, h, hx => mal_at (w := t) (i := i) h.2 (by simpa using hx)
theorem mnd_eq : ∀ {w : va_W} {i j : Nat} {x y : Nat × va_E}, mnd (w.map (·.1)) → w[i]? = some x → w[j]? = some y → x.1 = y.1 → i = j
  | [], i, j, x, y, _, hx, _, _ => by simp at hx
  | z :: t, 0, 0, x, y, _, _, _, _ => rfl
  | z :: t, 0, j + 1, x, y, h, hx, hy, he => by
    cases hx
    exact absurd (show z.1 ∈ t.map (·.1) by rw [he]; exact List.mem_map.mpr ⟨y, List.mem_of_getElem? (by simpa using hy), rfl⟩) h.1
  | z :: t, i + 1, 0, x, y, h, hx, hy, he => by
    cases hy
    exact absurd (show z.1 ∈ t.map (·.1) by rw [← he]; exact List.mem_map.mpr ⟨x, List.mem_of_getElem? (by simpa using hx), rfl⟩) h.1
  | z :: t, i + 1, j + 1, x, y, h, hx, hy, he => congrArg (· + 1) (mnd_eq (w := t) (i := i) (j := j) h.2 (by simpa using hx) (by simpa using hy) he)
theorem m_subP {D : va_G} {μ : Mm} {H : Heap} {wc : va_W} (hP : va_P D classes (mw μ) H) (h : mal μ wc) : va_P D classes wc H := fun i x hx => by
  obtain ⟨k, hk⟩ := m_ix (mal_at h hx)
  exact hP k _ hk
theorem m_subD {A : Nat → Prop} {μ : Mm} {wc : va_W} (hD : va_D A (mw μ)) (h : mal μ wc) (hn : mnd (wc.map (·.1))) : va_D A wc := ⟨fun i j x y hx hy he => mnd_eq hn hx hy he, fun i x hx => by
  obtain ⟨k, hk⟩ := m_ix (mal_at h hx)
  exact hD.2 k _ hk⟩
/-- a memory, written over by cells of a list -/
def mlk : va_W → Nat → Option va_E
  | [], _ => none
  | x :: t, a => if a = x.1 then some x.2 else mlk t a
def mov (μ : Mm) (w : va_W) : Mm := (μ.1, fun a => (mlk w a).getD (μ.2 a))
theorem mlk_some : ∀ {w : va_W} {a : Nat} {x : va_E}, mlk w a = some x → ∃ i : Nat, w[i]? = some (a, x)
  | [], a, x, h => by cases h
  | y :: t, a, x, h => by
    unfold mlk at h
    by_cases e : a = y.1
    · rw [if_pos e] at h
      cases h
      exact ⟨0, by rw [e]; rfl⟩
    · rw [if_neg e] at h
      obtain ⟨i, hi⟩ := mlk_some h
      exact ⟨i + 1, by simpa using hi⟩
theorem mlk_none : ∀ {w : va_W} {a : Nat}, mlk w a = none → a ∉ w.map (·.1)
  | [], a, _ => by simp
  | y :: t, a, h => by
    unfold mlk at h
    by_cases e : a = y.1
    · rw [if_pos e] at h; cases h
    · rw [if_neg e] at h
      have := mlk_none h
      simp only [List.map_cons, List.mem_cons, not_or]
      exact ⟨e, this⟩
theorem m_join {D : va_G} {A : Nat → Prop} {μ : Mm} {wc w1 : va_W} {H H1 : Heap} (hP : va_P D classes (mw μ) H) (hD : va_D A (mw μ)) (h : mal μ wc) (hk : ∀ q : Nat, q < H.size → ¬ va_A wc H.size q → H1[q]? = H[q]?) (hP1 : va_P D classes w1 H1) (hw : w1.map (·.1) = wc.map (·.1)) : va_P D classes (mw (mov μ w1)) H1 ∧ va_D A (mw (mov μ w1)) := by
  have hat : ∀ (i : Nat) (x : Nat × va_E), (mw (mov μ w1))[i]? = some x → ∃ y : va_E, (mw μ)[i]? = some (x.1, y) ∧ x.2 = (mlk w1 x.1).getD y := by
    intro i x hx
    simp only [mw, mov, va_pl, List.getElem?_map] at hx ⊢
    cases hb : μ.1[i]? with
    | none => rw [hb] at hx; cases hx
    | some b =>
      rw [hb] at hx
      cases hx
      exact ⟨μ.2 b, rfl, rfl⟩
  refine ⟨fun i x hx => ?_, fun i j x y hx hy he => ?_, fun i x hx => ?_⟩
  · obtain ⟨y, h1, h2⟩ := hat i x hx
    cases hm : mlk w1 x.1 with
    | some z =>
      obtain ⟨j, hj⟩ := mlk_some hm
      have h3 := hP1 j _ hj
      rw [hm] at h2
      have h2' : x.2 = z := h2
      have e : x = (x.1, z) := by rw [← h2']
      rw [e]
      exact h3
    | none =>
      have h3 := mlk_none hm
      rw [hw] at h3
      rw [hm] at h2
      have h4 := hP i _ h1
      have h5 : H1[x.1]? = H[x.1]? := hk x.1 h4.lt (fun q => by
        rcases q with ⟨k, e, q⟩ | q
        · exact h3 (List.mem_map.mpr ⟨_, List.mem_of_getElem? q, rfl⟩)
        · exact absurd h4.lt (Nat.not_lt.mpr q))
      have h2' : x.2 = y := h2
      have e : x = (x.1, y) := by rw [← h2']
      rw [e]
      have hk1 := va_P.kept (ws := [(x.1, y)]) (H1 := H1) (fun k q hq => by
        have : k < 1 := (List.getElem?_eq_some_iff.mp hq).1
        rw [show k = 0 by omega] at hq
        cases hq
        exact h4) (fun k q hq => by
        have : k < 1 := (List.getElem?_eq_some_iff.mp hq).1
        rw [show k = 0 by omega] at hq
        cases hq
        exact h5)
      exact hk1 0 _ rfl
  · obtain ⟨y1, h1, -⟩ := hat i x hx
    obtain ⟨y2, h2, -⟩ := hat j y hy
    exact hD.1 i j _ _ h1 h2 he
  · obtain ⟨y1, h1, -⟩ := hat i x hx
    have h3 : A x.1 := hD.2 i (x.1, y1) h1
    exact h3
section M7
variable {p : Program} {l : Launch} {e : Env} {R : Room} {s : State} {m : MethodId} {args : Array Value} {below : List Frame} {meth : Method} {c : Code} {H : Heap} {locs : List Loc} {cells slots : Nat} {Q : State → Prop}
variable {cc : ByteArray} {pc : Nat} {ls : Array Slot} {rest st0 : List Value} {D : va_G} {cy : Nat → ClassId} {ad : Nat → Nat} {A : Nat → Prop} {μ : Mm} {wc w1 : va_W} {mc ms : Nat} {a : Array Value}
theorem m_ri {v : Int32} {Φ : Int32 → Mm → Prop} (hΦ : Φ v μ) (hx : p.tables.exec = Jvm.exec) (hb : c.code = cc) (hr : meth.sig.returnType = some .int) (hlocks : meth.locks = false) (hK : va_K D classes (tyl cy) s) (hP : va_P D classes (mw μ) H) (hD : va_D A (mw μ)) (hS : va_S A s.heap H locs) (hdg : decode cc pc = .ok (.ireturn, 1)) : W p l e R s m args below meth c H locs cells slots (MQ below (va_Qi Φ (fun u t => Po D cy A (mw u) t) A) args s cells slots A) (F0 m pc ls [.int v]) :=
  W.iret (v := v) hx hb hr (fun t ht hW => ⟨⟨v, μ, rfl, hΦ, by rw [ht]; exact hP, va_K.moved hW.alike hK, hD⟩, hS.F ht⟩) hS.2.2 hdg hlocks
theorem m_rz {v : Int32} {Φ : Int32 → Mm → Prop} (hΦ : Φ v μ) (hx : p.tables.exec = Jvm.exec) (hb : c.code = cc) (hr : meth.sig.returnType = some .boolean) (hlocks : meth.locks = false) (hK : va_K D classes (tyl cy) s) (hP : va_P D classes (mw μ) H) (hD : va_D A (mw μ)) (hS : va_S A s.heap H locs) (hn : narrow .boolean (.int v) = .int v) (hdg : decode cc pc = .ok (.ireturn, 1)) : W p l e R s m args below meth c H locs cells slots (MQ below (va_Qi Φ (fun u t => Po D cy A (mw u) t) A) args s cells slots A) (F0 m pc ls [.int v]) :=
  W.zret (v := v) hx hb hr hn (fun t ht hW => ⟨⟨v, μ, rfl, hΦ, by rw [ht]; exact hP, va_K.moved hW.alike hK, hD⟩, hS.F ht⟩) hS.2.2 hdg hlocks
theorem m_rl {v : Int64} {Φ : Int64 → Mm → Prop} (hΦ : Φ v μ) (hx : p.tables.exec = Jvm.exec) (hb : c.code = cc) (hr : meth.sig.returnType = some .long) (hlocks : meth.locks = false) (hK : va_K D classes (tyl cy) s) (hP : va_P D classes (mw μ) H) (hD : va_D A (mw μ)) (hS : va_S A s.heap H locs) (hdg : decode cc pc = .ok (.lreturn, 1)) : W p l e R s m args below meth c H locs cells slots (MQ below (va_Ql Φ (fun u t => Po D cy A (mw u) t) A) args s cells slots A) (F0 m pc ls [.long v]) :=
  W.lret (v := v) hx hb hr (fun t ht hW => ⟨⟨v, μ, rfl, hΦ, by rw [ht]; exact hP, va_K.moved hW.alike hK, hD⟩, hS.F ht⟩) hS.2.2 hdg hlocks
theorem m_rv {Φ : Mm → Prop} (hΦ : Φ μ) (hx : p.tables.exec = Jvm.exec) (hb : c.code = cc) (hr : meth.sig.returnType = none) (hlocks : meth.locks = false) (hK : va_K D classes (tyl cy) s) (hP : va_P D classes (mw μ) H) (hD : va_D A (mw μ)) (hS : va_S A s.heap H locs) (hdg : decode cc pc = .ok (.return_, 1)) : W p l e R s m args below meth c H locs cells slots (MQ below (va_Qv Φ (fun u t => Po D cy A (mw u) t) A) args s cells slots A) (F0 m pc ls []) :=
  W.vret hx hb hr (fun t ht hW => ⟨⟨μ, rfl, hΦ, by rw [ht]; exact hP, va_K.moved hW.alike hK, hD⟩, hS.F ht⟩) hS.2.2 hdg hlocks
theorem m_ra {r : Option Nat} {v : Value} {rt : FieldType} {Φ : Option Nat → Mm → Prop} (hΦ : Φ r μ) (hv : v = va_rf r) (hx : p.tables.exec = Jvm.exec) (hb : c.code = cc) (hr : meth.sig.returnType = some rt) (hrt : (∃ n, rt = .object n) ∨ ∃ t, rt = .array t) (hlocks : meth.locks = false) (hK : va_K D classes (tyl cy) s) (hP : va_P D classes (mw μ) H) (hD : va_D A (mw μ)) (hS : va_S A s.heap H locs) (hdg : decode cc pc = .ok (.areturn, 1)) : W p l e R s m args below meth c H locs cells slots (MQ below (va_Qq Φ (fun u t => Po D cy A (mw u) t) A) args s cells slots A) (F0 m pc ls [v]) := by
  subst hv
  exact W.aret hx hb hr hrt (va_rf_or _) (fun t ht hW => ⟨⟨r, μ, rfl, hΦ, by rw [ht]; exact hP, va_K.moved hW.alike hK, hD⟩, hS.F ht⟩) hS.2.2 hdg hlocks
theorem m_ai {Φ : Int32 → Mm → Prop} (hr : va_Run p l e R s m args below meth c H locs cells slots mc ms (F0 m pc ls st0) rest (va_Qi Φ (fun u t => Po D cy (va_A (mw μ) H.size) (mw u) t) (va_A (mw μ) H.size) a) (va_A (mw μ) H.size)) (hD : va_D A (mw μ)) (hS : va_S A s.heap H locs) (hA : ∀ q, s.heap.size ≤ q → A q)
    (kk : ∀ (r : Int32) (u : Mm) (H1 : Heap) (locs1 : List Loc), Φ r u → va_P D classes (mw u) H1 → va_D A (mw u) → va_S A s.heap H1 locs1 → W p l e R s m args below meth c H1 locs1 (cells + mc) (slots + ms) Q (F0 m (pc + 3) ls (.int r :: rest))) : W p l e R s m args below meth c H locs cells slots Q (F0 m pc ls st0) := by
  have hF := m_free hD hS hA
  refine va_calli hr hS (fun q _ h => hF q h) hF (fun r u t H1 locs1 ht hvm hw hB hz hk hS1 => ?_)
  exact kk r u H1 locs1 hw (by rw [← ht]; exact hB.1) (hB.2.2.weaken (fun _ _ _ h => hF _ h)) hS1
theorem m_al {Φ : Int64 → Mm → Prop} (hr : va_Run p l e R s m args below meth c H locs cells slots mc ms (F0 m pc ls st0) rest (va_Ql Φ (fun u t => Po D cy (va_A (mw μ) H.size) (mw u) t) (va_A (mw μ) H.size) a) (va_A (mw μ) H.size)) (hD : va_D A (mw μ)) (hS : va_S A s.heap H locs) (hA : ∀ q, s.heap.size ≤ q → A q)
    (kk : ∀ (r : Int64) (u : Mm) (H1 : Heap) (locs1 : List Loc), Φ r u → va_P D classes (mw u) H1 → va_D A (mw u) → va_S A s.heap H1 locs1 → W p l e R s m args below meth c H1 locs1 (cells + mc) (slots + ms) Q (F0 m (pc + 3) ls (.long r :: rest))) : W p l e R s m args below meth c H locs cells slots Q (F0 m pc ls st0) := by
  have hF := m_free hD hS hA
  refine va_calll hr hS (fun q _ h => hF q h) hF (fun r u t H1 locs1 ht hvm hw hB hz hk hS1 => ?_)
  exact kk r u H1 locs1 hw (by rw [← ht]; exact hB.1) (hB.2.2.weaken (fun _ _ _ h => hF _ h)) hS1
theorem m_av {Φ : Mm → Prop} (hr : va_Run p l e R s m args below meth c H locs cells slots mc ms (F0 m pc ls st0) rest (va_Qv Φ (fun u t => Po D cy (va_A (mw μ) H.size) (mw u) t) (va_A (mw μ) H.size) a) (va_A (mw μ) H.size)) (hD : va_D A (mw μ)) (hS : va_S A s.heap H locs) (hA : ∀ q, s.heap.size ≤ q → A q)
    (kk : ∀ (u : Mm) (H1 : Heap) (locs1 : List Loc), Φ u → va_P D classes (mw u) H1 → va_D A (mw u) → va_S A s.heap H1 locs1 → W p l e R s m args below meth c H1 locs1 (cells + mc) (slots + ms) Q (F0 m (pc + 3) ls rest)) : W p l e R s m args below meth c H locs cells slots Q (F0 m pc ls st0) := by
  have hF := m_free hD hS hA
  refine va_callv hr hS (fun q _ h => hF q h) hF (fun u t H1 locs1 ht hvm hw hB hz hk hS1 => ?_)
  exact kk u H1 locs1 hw (by rw [← ht]; exact hB.1) (hB.2.2.weaken (fun _ _ _ h => hF _ h)) hS1
theorem m_aq {Φ : Option Nat → Mm → Prop} (hr : va_Run p l e R s m args below meth c H locs cells slots mc ms (F0 m pc ls st0) rest (va_Qq Φ (fun u t => Po D cy (va_A (mw μ) H.size) (mw u) t) (va_A (mw μ) H.size) a) (va_A (mw μ) H.size)) (hD : va_D A (mw μ)) (hS : va_S A s.heap H locs) (hA : ∀ q, s.heap.size ≤ q → A q)
    (kk : ∀ (r : Option Nat) (u : Mm) (H1 : Heap) (locs1 : List Loc), Φ r u → va_P D classes (mw u) H1 → va_D A (mw u) → va_S A s.heap H1 locs1 → W p l e R s m args below meth c H1 locs1 (cells + mc) (slots + ms) Q (F0 m (pc + 3) ls (va_rf r :: rest))) : W p l e R s m args below meth c H locs cells slots Q (F0 m pc ls st0) := by
  have hF := m_free hD hS hA
  refine va_callq hr hS (fun q _ h => hF q h) hF (fun r u t H1 locs1 ht hvm hw hB hz hk hS1 => ?_)
  exact kk r u H1 locs1 hw (by rw [← ht]; exact hB.1) (hB.2.2.weaken (fun _ _ _ h => hF _ h)) hS1
theorem m_lF (hD : va_D A (mw μ)) (hS : va_S A s.heap H locs) (hA : ∀ q, s.heap.size ≤ q → A q) (hal : mal μ wc) : ∀ q, va_A wc H.size q → A q := by
  intro q h
  rcases h with ⟨k, x, h⟩ | h
  · obtain ⟨j, hj⟩ := m_ix (mal_at hal h)
    exact hD.2 j _ hj
  · exact hA q (Nat.le_trans hS.1 h)
theorem m_li {r : Int32} (hr : va_Run p l e R s m args below meth c H locs cells slots mc ms (F0 m pc ls st0) rest (va_Qi (fun r' (_ : Unit) => r' = r) (fun _ t => Po D cy (va_A wc H.size) w1 t) (va_A wc H.size) a) (va_A wc H.size)) (hP : va_P D classes (mw μ) H) (hD : va_D A (mw μ)) (hS : va_S A s.heap H locs) (hA : ∀ q, s.heap.size ≤ q → A q) (hal : mal μ wc) (hw : w1.map (·.1) = wc.map (·.1))
    (kk : ∀ (H1 : Heap) (locs1 : List Loc), va_P D classes (mw (mov μ w1)) H1 → va_D A (mw (mov μ w1)) → va_S A s.heap H1 locs1 → W p l e R s m args below meth c H1 locs1 (cells + mc) (slots + ms) Q (F0 m (pc + 3) ls (.int r :: rest))) : W p l e R s m args below meth c H locs cells slots Q (F0 m pc ls st0) := by
  have hF := m_lF hD hS hA hal
  refine va_calli hr hS (fun q _ h => hF q h) hF (fun r' u t H1 locs1 ht hvm hw' hB hz hk hS1 => ?_)
  subst hw'
  obtain ⟨h1, h2⟩ := m_join hP hD hal hk (by rw [← ht]; exact hB.1) hw
  exact kk H1 locs1 h1 h2 hS1
theorem m_ll {r : Int64} (hr : va_Run p l e R s m args below meth c H locs cells slots mc ms (F0 m pc ls st0) rest (va_Ql (fun r' (_ : Unit) => r' = r) (fun _ t => Po D cy (va_A wc H.size) w1 t) (va_A wc H.size) a) (va_A wc H.size)) (hP : va_P D classes (mw μ) H) (hD : va_D A (mw μ)) (hS : va_S A s.heap H locs) (hA : ∀ q, s.heap.size ≤ q → A q) (hal : mal μ wc) (hw : w1.map (·.1) = wc.map (·.1))
    (kk : ∀ (H1 : Heap) (locs1 : List Loc), va_P D classes (mw (mov μ w1)) H1 → va_D A (mw (mov μ w1)) → va_S A s.heap H1 locs1 → W p l e R s m args below meth c H1 locs1 (cells + mc) (slots + ms) Q (F0 m (pc + 3) ls (.long r :: rest))) : W p l e R s m args below meth c H locs cells slots Q (F0 m pc ls st0) := by
  have hF := m_lF hD hS hA hal
  refine va_calll hr hS (fun q _ h => hF q h) hF (fun r' u t H1 locs1 ht hvm hw' hB hz hk hS1 => ?_)
  subst hw'
  obtain ⟨h1, h2⟩ := m_join hP hD hal hk (by rw [← ht]; exact hB.1) hw
  exact kk H1 locs1 h1 h2 hS1
theorem m_lv (hr : va_Run p l e R s m args below meth c H locs cells slots mc ms (F0 m pc ls st0) rest (va_Qv (fun (_ : Unit) => True) (fun _ t => Po D cy (va_A wc H.size) w1 t) (va_A wc H.size) a) (va_A wc H.size)) (hP : va_P D classes (mw μ) H) (hD : va_D A (mw μ)) (hS : va_S A s.heap H locs) (hA : ∀ q, s.heap.size ≤ q → A q) (hal : mal μ wc) (hw : w1.map (·.1) = wc.map (·.1))
    (kk : ∀ (H1 : Heap) (locs1 : List Loc), va_P D classes (mw (mov μ w1)) H1 → va_D A (mw (mov μ w1)) → va_S A s.heap H1 locs1 → W p l e R s m args below meth c H1 locs1 (cells + mc) (slots + ms) Q (F0 m (pc + 3) ls rest)) : W p l e R s m args below meth c H locs cells slots Q (F0 m pc ls st0) := by
  have hF := m_lF hD hS hA hal
  refine va_callv hr hS (fun q _ h => hF q h) hF (fun u t H1 locs1 ht hvm hw' hB hz hk hS1 => ?_)
  obtain ⟨h1, h2⟩ := m_join hP hD hal hk (by rw [← ht]; exact hB.1) hw
  exact kk H1 locs1 h1 h2 hS1
end M7
-- guards and names, for wp
theorem bnP {α : Type} {e : α} {k : α → Prop} (h : bnd e k) : ∃ v, v = e ∧ k v := ⟨e, rfl, h⟩
theorem ifpP {P A B : Prop} [Decidable P] (h : P) (hf : if P then A else B) : A := by rw [if_pos h] at hf; exact hf
theorem ifnP {P A B : Prop} [Decidable P] (h : ¬ P) (hf : if P then A else B) : B := by rw [if_neg h] at hf; exact hf
theorem bnQ {α : Type} {e v : α} {k : α → Prop} (h : v = e) (hf : bnd e k) : k v := by subst h; exact hf
def gdP (b : Bool) (x : Prop) : Prop := b = true ∧ x
def osp (r : Option Nat) (a : Prop) (b : Nat → Prop) : Prop := match r with
  | none => a
  | some x => b x
theorem ospp {r : Option Nat} {a : Prop} {b : Nat → Prop} (h : osp r a b) : (r = none ∧ a) ∨ ∃ x, r = some x ∧ b x := by
  cases r with
  | none => exact Or.inl ⟨rfl, h⟩
  | some x => exact Or.inr ⟨x, rfl, h⟩
def mgi (M : Mm) (a ci k : Nat) (K : Int32 → Prop) : Prop := ∃ fs, mat M a (.inr (ci, fs)) ∧ ∃ v, fs[k]? = some (.int v) ∧ K v
def mgj (M : Mm) (a ci k : Nat) (K : Int64 → Prop) : Prop := ∃ fs, mat M a (.inr (ci, fs)) ∧ ∃ v, fs[k]? = some (.long v) ∧ K v
def mgr (M : Mm) (a ci k : Nat) (K : Option Nat → Prop) : Prop := ∃ fs, mat M a (.inr (ci, fs)) ∧ ∃ v, fs[k]? = some (va_rf v) ∧ K v
def mpt (M : Mm) (a ci k : Nat) (v : Value) (K : Mm → Prop) : Prop := ∃ fs, mat M a (.inr (ci, fs)) ∧ k < fs.length ∧ K (mu M a (.inr (ci, fs.set k v)))
def mai (M : Mm) (a : Nat) (cA : ClassId) (i : Int32) (K : Int32 → Prop) : Prop := ∃ n f, mat M a (.inl (cA, n, .inl f)) ∧ inb i n = true ∧ K (f i.toNatClampNeg)
def maj (M : Mm) (a : Nat) (cA : ClassId) (i : Int32) (K : Int64 → Prop) : Prop := ∃ n f, mat M a (.inl (cA, n, .inr (.inl f))) ∧ inb i n = true ∧ K (f i.toNatClampNeg)
def mar (M : Mm) (a : Nat) (cA : ClassId) (i : Int32) (K : Option Nat → Prop) : Prop := ∃ n f, mat M a (.inl (cA, n, .inr (.inr (.inr (.inr f))))) ∧ inb i n = true ∧ K (f i.toNatClampNeg)
def msi (M : Mm) (a : Nat) (cA : ClassId) (i v : Int32) (K : Mm → Prop) : Prop := ∃ n f, mat M a (.inl (cA, n, .inl f)) ∧ inb i n = true ∧ K (mu M a (.inl (cA, n, .inl (upd f i.toNatClampNeg v))))
def msj (M : Mm) (a : Nat) (cA : ClassId) (i : Int32) (v : Int64) (K : Mm → Prop) : Prop := ∃ n f, mat M a (.inl (cA, n, .inr (.inl f))) ∧ inb i n = true ∧ K (mu M a (.inl (cA, n, .inr (.inl (vp_updL f i.toNatClampNeg v)))))
def msr (M : Mm) (a : Nat) (cA : ClassId) (i : Int32) (v : Option Nat) (K : Mm → Prop) : Prop := ∃ n f, mat M a (.inl (cA, n, .inr (.inr (.inr (.inr f))))) ∧ inb i n = true ∧ K (mu M a (.inl (cA, n, .inr (.inr (.inr (.inr (va_up f i.toNatClampNeg v)))))))
def mln (M : Mm) (a : Nat) (cA : ClassId) (K : Int32 → Prop) : Prop := ∃ x : vp_A, mat M a (.inl (cA, x)) ∧ K (Int32.ofNat x.1)
def mck (M : Mm) (a ci : Nat) (K : Prop) : Prop := ∃ fs, mat M a (.inr (ci, fs)) ∧ K
def mnw (M : Mm) (x : va_E) (K : Nat → Mm → Prop) : Prop := ∀ q, q ∉ M.1 → K q (mp M q x)
