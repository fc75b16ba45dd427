-- cells of a memory by keys
def Rg (n : Nat) (q : Nat → Nat) (C : Nat → va_E) (M : Mm) : Prop := ∀ k, k < n ∧ k ≠ 29 → mat M (q k) (C k)
def Ij (n : Nat) (q : Nat → Nat) : Prop := ∀ i j, i < n ∧ i ≠ 29 → j < n ∧ j ≠ 29 → q i = q j → i = j
/-- nothing else has changed -/
def fr (n : Nat) (q : Nat → Nat) (M M' : Mm) : Prop := M'.1 = M.1 ∧ ∀ a, (∀ k, k < n ∧ k ≠ 29 → a ≠ q k) → M'.2 a = M.2 a
set_option maxHeartbeats 400000 in
theorem fr_r (n : Nat) (q : Nat → Nat) (M : Mm) : fr n q M M := ⟨rfl, fun _ _ => rfl⟩
set_option maxHeartbeats 400000 in
theorem fr_t {n : Nat} {q : Nat → Nat} {M M' M'' : Mm} (h1 : fr n q M M') (h2 : fr n q M' M'') : fr n q M M'' := ⟨h2.1.trans h1.1, fun a ha => (h2.2 a ha).trans (h1.2 a ha)⟩
set_option maxHeartbeats 400000 in
theorem fr_mat {n : Nat} {q : Nat → Nat} {M M' : Mm} (h : fr n q M M') {a : Nat} {x : va_E} (ha : ∀ k, k < n ∧ k ≠ 29 → a ≠ q k) (hx : mat M a x) : mat M' a x := ⟨by rw [h.1]; exact hx.1, (h.2 a ha).trans hx.2⟩
set_option maxHeartbeats 400000 in
theorem Rg_c {n : Nat} {q : Nat → Nat} {C C' : Nat → va_E} {M : Mm} (h : Rg n q C M) (e : ∀ k, k < n ∧ k ≠ 29 → C' k = C k) : Rg n q C' M := fun k hk => by rw [e k hk]; exact h k hk
set_option maxHeartbeats 400000 in
theorem mlk_mem : ∀ {w : va_W} {a : Nat}, a ∈ w.map (·.1) → ∃ x, mlk w a = some x
  | [], a, h => by simp at h
  | y :: t, a, h => by
    unfold mlk
    by_cases e : a = y.1
    · exact ⟨y.2, by rw [if_pos e]⟩
    · rw [if_neg e]
      refine mlk_mem (w := t) ?_
      rw [List.map_cons, List.mem_cons] at h
      exact h.resolve_left e
set_option maxHeartbeats 400000 in
theorem Rg_mov {n : Nat} {q : Nat → Nat} {C C' : Nat → va_E} {M : Mm} (hM : Rg n q C M) (hq : Ij n q) (ks : List Nat) (h1 : ∀ k, k ∈ ks → k < n ∧ k ≠ 29) (h2 : ∀ k, k < n ∧ k ≠ 29 → k ∉ ks → C' k = C k) : Rg n q C' (mov M (ks.map fun k => (q k, C' k))) ∧ fr n q M (mov M (ks.map fun k => (q k, C' k))) := by
  have key : ∀ a x, mlk (ks.map fun k => (q k, C' k)) a = some x → ∃ k, k ∈ ks ∧ a = q k ∧ x = C' k := by
    intro a x hx
    obtain ⟨i, hi⟩ := mlk_some hx
    have := List.mem_of_getElem? hi
    obtain ⟨k, hk, e⟩ := List.mem_map.mp this
    exact ⟨k, hk, (congrArg Prod.fst e).symm, (congrArg Prod.snd e).symm⟩
  refine ⟨fun k hk => ⟨(hM k hk).1, ?_⟩, rfl, fun a ha => ?_⟩
  · show (mlk (ks.map fun k => (q k, C' k)) (q k)).getD (M.2 (q k)) = C' k
    by_cases hm : k ∈ ks
    · obtain ⟨x, hx⟩ := mlk_mem (w := ks.map fun k => (q k, C' k)) (a := q k) (List.mem_map.mpr ⟨(q k, C' k), List.mem_map.mpr ⟨k, hm, rfl⟩, rfl⟩)
      obtain ⟨j, hj, e1, e2⟩ := key _ _ hx
      have : k = j := hq k j hk (h1 j hj) e1
      rw [hx, e2, this]
      rfl
    · cases hx : mlk (ks.map fun k => (q k, C' k)) (q k) with
      | none => exact ((hM k hk).2).trans (h2 k hk hm).symm
      | some x =>
        obtain ⟨j, hj, e1, e2⟩ := key _ _ hx
        have : k = j := hq k j hk (h1 j hj) e1
        exact absurd (this ▸ hj) hm
  · show (mlk (ks.map fun k => (q k, C' k)) a).getD (M.2 a) = M.2 a
    cases hx : mlk (ks.map fun k => (q k, C' k)) a with
    | none => rfl
    | some x =>
      obtain ⟨j, hj, e1, -⟩ := key _ _ hx
      exact absurd e1 (ha j (h1 j hj))
set_option maxHeartbeats 400000 in
theorem Rg_mu {n : Nat} {q : Nat → Nat} {C : Nat → va_E} {M : Mm} (hM : Rg n q C M) (hq : Ij n q) {k : Nat} (hk : k < n ∧ k ≠ 29) (x : va_E) {C' : Nat → va_E} (e1 : C' k = x) (e2 : ∀ j, j < n ∧ j ≠ 29 → j ≠ k → C' j = C j) : Rg n q C' (mu M (q k) x) ∧ fr n q M (mu M (q k) x) := by
  refine ⟨fun j hj => ⟨(hM j hj).1, ?_⟩, rfl, fun a ha => va_up_ne _ _ (ha k hk)⟩
  by_cases h : j = k
  · rw [h, e1]; exact va_up_self _ _ _
  · rw [e2 j hj h]
    exact (va_up_ne _ _ (fun e => h (hq j k hj hk e))).trans (hM j hj).2
set_option maxHeartbeats 400000 in
/-- what an array-level leaf leaves -/
theorem m_lf {n : Nat} {q : Nat → Nat} {C : Nat → va_E} {M : Mm} {K : Mm → Prop} (hM : Rg n q C M) (hq : Ij n q) (C' : Nat → va_E) (ks : List Nat) (h1 : ∀ k, k ∈ ks → k < n ∧ k ≠ 29) (h2 : ∀ k, k < n ∧ k ≠ 29 → k ∉ ks → C' k = C k) (hK : ∀ M', Rg n q C' M' → fr n q M M' → K M') : bnd (mov M (ks.map fun k => (q k, C' k))) K := hK _ (Rg_mov hM hq ks h1 h2).1 (Rg_mov hM hq ks h1 h2).2
set_option maxHeartbeats 400000 in
theorem mal_n (M : Mm) : mal M [] := trivial
set_option maxHeartbeats 400000 in
theorem mal_c {M : Mm} {a : Nat} {x : va_E} {t : va_W} (h : mat M a x) (ht : mal M t) : mal M ((a, x) :: t) := ⟨h, ht⟩
set_option maxHeartbeats 400000 in
theorem mnd_q {n : Nat} {q : Nat → Nat} (hq : Ij n q) : ∀ (ks : List Nat), (∀ k, k ∈ ks → k < n ∧ k ≠ 29) → ks.Nodup → mnd (ks.map q)
  | [], _, _ => trivial
  | k :: ks, h1, h2 => by
    refine ⟨?_, mnd_q hq ks (fun j hj => h1 j (List.mem_cons_of_mem _ hj)) (List.nodup_cons.mp h2).2⟩
    intro h
    obtain ⟨j, hj, e⟩ := List.mem_map.mp h
    have : j = k := hq j k (h1 j (List.mem_cons_of_mem _ hj)) (h1 k List.mem_cons_self) e
    exact (List.nodup_cons.mp h2).1 (this ▸ hj)
set_option maxHeartbeats 400000 in
theorem m_gr {M : Mm} {a ci k x : Nat} {fs : List Value} {K : Nat → Prop} (h : mat M a (.inr (ci, fs))) (e : fs[k]? = some (.ref x)) (hK : K x) : mgr M a ci k (fun r => oss r K) := ⟨fs, h, some x, e, x, rfl, hK⟩
set_option maxHeartbeats 400000 in
theorem m_grp {M : Mm} {a ci k x : Nat} {fs : List Value} {K : Nat → Prop} {Z : Prop} (h : mat M a (.inr (ci, fs))) (e : fs[k]? = some (.ref x)) (hK : K x) : mgr M a ci k (fun r => osp r Z K) := ⟨fs, h, some x, e, hK⟩
set_option maxHeartbeats 400000 in
theorem m_gn {M : Mm} {a ci k : Nat} {fs : List Value} {K : Nat → Prop} {Z : Prop} (h : mat M a (.inr (ci, fs))) (e : fs[k]? = some .null) (hZ : Z) : mgr M a ci k (fun r => osp r Z K) := ⟨fs, h, none, e, hZ⟩
set_option maxHeartbeats 400000 in
theorem m_gi {M : Mm} {a ci k : Nat} {fs : List Value} {v : Int32} {K : Int32 → Prop} (h : mat M a (.inr (ci, fs))) (e : fs[k]? = some (.int v)) (hK : K v) : mgi M a ci k K := ⟨fs, h, v, e, hK⟩
set_option maxHeartbeats 400000 in
theorem m_gj {M : Mm} {a ci k : Nat} {fs : List Value} {v : Int64} {K : Int64 → Prop} (h : mat M a (.inr (ci, fs))) (e : fs[k]? = some (.long v)) (hK : K v) : mgj M a ci k K := ⟨fs, h, v, e, hK⟩
set_option maxHeartbeats 400000 in
theorem m_ck {M : Mm} {a ci : Nat} {fs : List Value} {K : Prop} (h : mat M a (.inr (ci, fs))) (hK : K) : mck M a ci K := ⟨fs, h, hK⟩
set_option maxHeartbeats 400000 in
theorem m_ar {M : Mm} {a n x : Nat} {cA : ClassId} {i : Int32} {f : Nat → Option Nat} {K : Nat → Prop} (h : mat M a (.inl (cA, n, .inr (.inr (.inr (.inr f)))))) (hi : inb i n = true) (e : f i.toNatClampNeg = some x) (hK : K x) : mar M a cA i (fun r => oss r K) := ⟨n, f, h, hi, x, e, hK⟩
set_option maxHeartbeats 400000 in
theorem m_aj {M : Mm} {a n : Nat} {cA : ClassId} {i : Int32} {f : Nat → Int64} {K : Int64 → Prop} (h : mat M a (.inl (cA, n, .inr (.inl f)))) (hi : inb i n = true) (hK : K (f i.toNatClampNeg)) : maj M a cA i K := ⟨n, f, h, hi, hK⟩
set_option maxHeartbeats 400000 in
theorem m_ai {M : Mm} {a n : Nat} {cA : ClassId} {i : Int32} {f : Nat → Int32} {K : Int32 → Prop} (h : mat M a (.inl (cA, n, .inl f))) (hi : inb i n = true) (hK : K (f i.toNatClampNeg)) : mai M a cA i K := ⟨n, f, h, hi, hK⟩
set_option maxHeartbeats 400000 in
theorem m_t {c A B : Prop} [Decidable c] (h : c) (hA : A) : if c then A else B := by rw [if_pos h]; exact hA
set_option maxHeartbeats 400000 in
theorem m_f {c A B : Prop} [Decidable c] (h : ¬ c) (hB : B) : if c then A else B := by rw [if_neg h]; exact hB
set_option maxHeartbeats 400000 in
theorem m_if {c A B : Prop} [Decidable c] (hA : c → A) (hB : ¬ c → B) : if c then A else B := by
  by_cases h : c
  · rw [if_pos h]; exact hA h
  · rw [if_neg h]; exact hB h
set_option maxHeartbeats 400000 in
theorem m_b {α : Type} {e : α} {k : α → Prop} (h : k e) : bnd e k := h
set_option maxHeartbeats 400000 in
theorem m_bn {α : Type} {e e' : α} {k : α → Prop} (he : e = e') (h : k e') : bnd e k := by subst he; exact h
set_option maxHeartbeats 400000 in
theorem m_bv {α : Type} {e : α} {k : α → Prop} (h : ∀ v, v = e → k v) : bnd e k := h e rfl
set_option maxHeartbeats 400000 in
theorem m_sj {n : Nat} {q : Nat → Nat} {C : Nat → va_E} {M : Mm} {K : Mm → Prop} (hM : Rg n q C M) (hq : Ij n q) {k m : Nat} (hk : k < n ∧ k ≠ 29) {cA : ClassId} {f : Nat → Int64} {i : Int32} {v : Int64} (e : C k = .inl (cA, m, .inr (.inl f))) (hi : inb i m = true) (C' : Nat → va_E) (e1 : C' k = .inl (cA, m, .inr (.inl (vp_updL f i.toNatClampNeg v)))) (e2 : ∀ j, j < n ∧ j ≠ 29 → j ≠ k → C' j = C j) (hK : ∀ M', Rg n q C' M' → fr n q M M' → K M') : msj M (q k) cA i v K := ⟨m, f, by rw [← e]; exact hM k hk, hi, hK _ (Rg_mu hM hq hk _ e1 e2).1 (Rg_mu hM hq hk _ e1 e2).2⟩
set_option maxHeartbeats 400000 in
theorem m_si {n : Nat} {q : Nat → Nat} {C : Nat → va_E} {M : Mm} {K : Mm → Prop} (hM : Rg n q C M) (hq : Ij n q) {k m : Nat} (hk : k < n ∧ k ≠ 29) {cA : ClassId} {f : Nat → Int32} {i : Int32} {v : Int32} (e : C k = .inl (cA, m, .inl f)) (hi : inb i m = true) (C' : Nat → va_E) (e1 : C' k = .inl (cA, m, .inl (upd f i.toNatClampNeg v))) (e2 : ∀ j, j < n ∧ j ≠ 29 → j ≠ k → C' j = C j) (hK : ∀ M', Rg n q C' M' → fr n q M M' → K M') : msi M (q k) cA i v K := ⟨m, f, by rw [← e]; exact hM k hk, hi, hK _ (Rg_mu hM hq hk _ e1 e2).1 (Rg_mu hM hq hk _ e1 e2).2⟩
set_option maxHeartbeats 400000 in
theorem m_pt {n : Nat} {q : Nat → Nat} {C : Nat → va_E} {M : Mm} {K : Mm → Prop} (hM : Rg n q C M) (hq : Ij n q) {k ci i : Nat} {v : Value} (hk : k < n ∧ k ≠ 29) {fs : List Value} (e : C k = .inr (ci, fs)) (hi : i < fs.length) (C' : Nat → va_E) (e1 : C' k = .inr (ci, fs.set i v)) (e2 : ∀ j, j < n ∧ j ≠ 29 → j ≠ k → C' j = C j) (hK : ∀ M', Rg n q C' M' → fr n q M M' → K M') : mpt M (q k) ci i v K := ⟨fs, by rw [← e]; exact hM k hk, hi, hK _ (Rg_mu hM hq hk _ e1 e2).1 (Rg_mu hM hq hk _ e1 e2).2⟩
set_option maxHeartbeats 400000 in
theorem m_cj {n : Nat} {q : Nat → Nat} {C : Nat → va_E} {M : Mm} {K : Mm → Prop} (hM : Rg n q C M) (hq : Ij n q) {a b n0 n1 : Nat} (ha : a < n ∧ a ≠ 29) (hb : b < n ∧ b ≠ 29) {cy : Nat → ClassId} {f0 f1 : Nat → Int64} {sp dp m : Int32} (ea' : C a = .inl (cy 2, n0, .inr (.inl f0))) (eb : C b = .inl (cy 2, n1, .inr (.inl f1))) (hc : cpk sp dp m n0 n1 = true) (C' : Nat → va_E) (e1 : C' b = .inl (cy 2, n1, .inr (.inl (va_cpy f0 f1 sp.toNatClampNeg dp.toNatClampNeg m.toNatClampNeg)))) (e2 : ∀ j, j < n ∧ j ≠ 29 → j ≠ b → C' j = C j) (hK : ∀ M', Rg n q C' M' → fr n q M M' → K M') : mcj M cy (q a) (q b) sp dp m K := ⟨n0, f0, n1, f1, by rw [← ea']; exact hM a ha, by rw [← eb]; exact hM b hb, hc, hK _ (Rg_mu hM hq hb _ e1 e2).1 (Rg_mu hM hq hb _ e1 e2).2⟩
set_option maxHeartbeats 400000 in
theorem up_e {α : Type} {f : Nat → α} {k : Nat} {v : α} : va_up f k v k = v := va_up_self _ _ _
set_option maxHeartbeats 400000 in
theorem up_n {α : Type} {f : Nat → α} {k j : Nat} {v : α} (h : j ≠ k) : va_up f k v j = f j := va_up_ne _ _ h
