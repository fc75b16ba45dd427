-- a memory by keys, some of which are in use
def RG (P : Nat → Prop) (q : Nat → Nat) (C : Nat → va_E) (M : Mm) : Prop := ∀ k, P k → mat M (q k) (C k)
def IJ (P : Nat → Prop) (q : Nat → Nat) : Prop := ∀ i j, P i → P j → q i = q j → i = j
set_option maxHeartbeats 400000 in
theorem RG_c {P : Nat → Prop} {q : Nat → Nat} {C C' : Nat → va_E} {M : Mm} (h : RG P q C M) (e : ∀ k, P k → C' k = C k) : RG P q C' M := fun k hk => by rw [e k hk]; exact h k hk
set_option maxHeartbeats 400000 in
theorem RG_mov {P : Nat → Prop} {q : Nat → Nat} {C C' : Nat → va_E} {M : Mm} (hM : RG P q C M) (hq : IJ P q) (ks : List Nat) (h1 : ∀ k, k ∈ ks → P k) (h2 : ∀ k, P k → k ∉ ks → C' k = C k) : RG P q C' (mov M (ks.map fun k => (q k, C' k))) := by
  have key : ∀ a x, mlk (ks.map fun k => (q k, C' k)) a = some x → ∃ k, k ∈ ks ∧ a = q k ∧ x = C' k := by
    intro a x hx
    obtain ⟨i, hi⟩ := mlk_some hx
    have := List.mem_of_getElem? hi
    obtain ⟨k, hk, e⟩ := List.mem_map.mp this
    exact ⟨k, hk, (congrArg Prod.fst e).symm, (congrArg Prod.snd e).symm⟩
  refine fun k hk => ⟨(hM k hk).1, ?_⟩
  show (mlk (ks.map fun k => (q k, C' k)) (q k)).getD (M.2 (q k)) = C' k
  by_cases hm : k ∈ ks
  · obtain ⟨x, hx⟩ := mlk_mem (w := ks.map fun k => (q k, C' k)) (a := q k) (List.mem_map.mpr ⟨(q k, C' k), List.mem_map.mpr ⟨k, hm, rfl⟩, rfl⟩)
    obtain ⟨j, hj, e1, e2⟩ := key _ _ hx
    have : k = j := hq k j hk (h1 j hj) e1
    rw [hx, e2, this]
    rfl
  · cases hx : mlk (ks.map fun k => (q k, C' k)) (q k) with
    | none => exact ((hM k hk).2).trans (h2 k hk hm).symm
    | some x =>
      obtain ⟨j, hj, e1, e2⟩ := key _ _ hx
      have : k = j := hq k j hk (h1 j hj) e1
      exact absurd (this ▸ hj) hm
set_option maxHeartbeats 400000 in
theorem RG_mu {P : Nat → Prop} {q : Nat → Nat} {C : Nat → va_E} {M : Mm} (hM : RG P q C M) (hq : IJ P q) {k : Nat} (hk : P k) (x : va_E) : RG P q (va_up C k x) (mu M (q k) x) := by
  refine fun j hj => ⟨(hM j hj).1, ?_⟩
  by_cases h : j = k
  · rw [h, up_e]; exact va_up_self _ _ _
  · rw [up_n h]
    exact (va_up_ne _ _ (fun e => h (hq j k hj hk e))).trans (hM j hj).2
set_option maxHeartbeats 400000 in
theorem g_lf {P : Nat → Prop} {q : Nat → Nat} {C : Nat → va_E} {M : Mm} {K : Mm → Prop} (hM : RG P q C M) (hq : IJ P q) (C' : Nat → va_E) (ks : List Nat) (h1 : ∀ k, k ∈ ks → P k) (h2 : ∀ k, P k → k ∉ ks → C' k = C k) (hK : ∀ M', RG P q C' M' → K M') : bnd (mov M (ks.map fun k => (q k, C' k))) K := hK _ (RG_mov hM hq ks h1 h2)
set_option maxHeartbeats 400000 in
theorem gnd {P : Nat → Prop} {q : Nat → Nat} (hq : IJ P q) : ∀ (ks : List Nat), (∀ k, k ∈ ks → P k) → ks.Nodup → mnd (ks.map q)
  | [], _, _ => trivial
  | k :: ks, h1, h2 => by
    refine ⟨?_, gnd hq ks (fun j hj => h1 j (List.mem_cons_of_mem _ hj)) (List.nodup_cons.mp h2).2⟩
    intro h
    obtain ⟨j, hj, e⟩ := List.mem_map.mp h
    have : j = k := hq j k (h1 j (List.mem_cons_of_mem _ hj)) (h1 k List.mem_cons_self) e
    exact (List.nodup_cons.mp h2).1 (this ▸ hj)
set_option maxHeartbeats 400000 in
theorem g_at {P : Nat → Prop} {q : Nat → Nat} {C : Nat → va_E} {M : Mm} (hM : RG P q C M) {k : Nat} (hk : P k) {x : va_E} (e : C k = x) : mat M (q k) x := by rw [← e]; exact hM k hk
set_option maxHeartbeats 400000 in
theorem g_pt {P : Nat → Prop} {q : Nat → Nat} {C : Nat → va_E} {M : Mm} {K : Mm → Prop} (hM : RG P q C M) (hq : IJ P q) {k ci i : Nat} {v : Value} (hk : P k) {fs : List Value} (e : C k = .inr (ci, fs)) (hi : i < fs.length) (hK : ∀ M', RG P q (va_up C k (.inr (ci, fs.set i v))) M' → K M') : mpt M (q k) ci i v K := ⟨fs, g_at hM hk e, hi, hK _ (RG_mu hM hq hk _)⟩
set_option maxHeartbeats 400000 in
theorem g_si {P : Nat → Prop} {q : Nat → Nat} {C : Nat → va_E} {M : Mm} {K : Mm → Prop} (hM : RG P q C M) (hq : IJ P q) {k m : Nat} (hk : P k) {cA : ClassId} {f : Nat → Int32} {i : Int32} {v : Int32} (e : C k = .inl (cA, m, .inl f)) (hi : inb i m = true) (hK : ∀ M', RG P q (va_up C k (.inl (cA, m, .inl (upd f i.toNatClampNeg v)))) M' → K M') : msi M (q k) cA i v K := ⟨m, f, g_at hM hk e, hi, hK _ (RG_mu hM hq hk _)⟩
set_option maxHeartbeats 400000 in
theorem g_sj {P : Nat → Prop} {q : Nat → Nat} {C : Nat → va_E} {M : Mm} {K : Mm → Prop} (hM : RG P q C M) (hq : IJ P q) {k m : Nat} (hk : P k) {cA : ClassId} {f : Nat → Int64} {i : Int32} {v : Int64} (e : C k = .inl (cA, m, .inr (.inl f))) (hi : inb i m = true) (hK : ∀ M', RG P q (va_up C k (.inl (cA, m, .inr (.inl (vp_updL f i.toNatClampNeg v))))) M' → K M') : msj M (q k) cA i v K := ⟨m, f, g_at hM hk e, hi, hK _ (RG_mu hM hq hk _)⟩
set_option maxHeartbeats 400000 in
theorem g_sr {P : Nat → Prop} {q : Nat → Nat} {C : Nat → va_E} {M : Mm} {K : Mm → Prop} (hM : RG P q C M) (hq : IJ P q) {k m : Nat} (hk : P k) {cA : ClassId} {f : Nat → Option Nat} {i : Int32} {v : Option Nat} (e : C k = .inl (cA, m, .inr (.inr (.inr (.inr f))))) (hi : inb i m = true) (hK : ∀ M', RG P q (va_up C k (.inl (cA, m, .inr (.inr (.inr (.inr (va_up f i.toNatClampNeg v))))))) M' → K M') : msr M (q k) cA i v K := ⟨m, f, g_at hM hk e, hi, hK _ (RG_mu hM hq hk _)⟩
set_option maxHeartbeats 400000 in
/-- a new cell, under a key that isn't in use -/
theorem g_nwz {P : Nat → Prop} {q : Nat → Nat} {C : Nat → va_E} {M : Mm} {K : Nat → Mm → Prop} {x : va_E} {z : Nat} (hM : RG P q C M) (hq : IJ P q) {k : Nat} (hk : ¬ P k) (hK : ∀ a M', RG (fun j => P j ∨ j = k) (va_up q k a) (va_up C k x) M' → IJ (fun j => P j ∨ j = k) (va_up q k a) → a ≠ z → K a M') : mnw z M x K := by
  intro a ha haz
  have hne : ∀ j, P j → j ≠ k := fun j hj e => hk (e ▸ hj)
  have hqa : ∀ j, P j → q j ≠ a := fun j hj e => ha (e ▸ (hM j hj).1)
  refine hK a _ (fun j hj => ?_) (fun i j hi hj e => ?_) haz
  · by_cases e : j = k
    · subst e
      rw [up_e, up_e]
      exact ⟨List.mem_append_right _ (List.mem_singleton.mpr rfl), va_up_self _ _ _⟩
    · rw [up_n e, up_n e]
      have hj := hj.resolve_right e
      exact ⟨List.mem_append_left _ (hM j hj).1, (va_up_ne _ _ (hqa j hj)).trans (hM j hj).2⟩
  · by_cases ei : i = k
    · by_cases ej : j = k
      · rw [ei, ej]
      · rw [ei, up_e, up_n ej] at e
        exact absurd e.symm (hqa j (hj.resolve_right ej))
    · by_cases ej : j = k
      · rw [ej, up_e, up_n ei] at e
        exact absurd e (hqa i (hi.resolve_right ei))
      · rw [up_n ei, up_n ej] at e
        exact hq i j (hi.resolve_right ei) (hj.resolve_right ej) e
set_option maxHeartbeats 400000 in
theorem g_nw {P : Nat → Prop} {q : Nat → Nat} {C : Nat → va_E} {M : Mm} {K : Nat → Mm → Prop} {x : va_E} {z : Nat} (hM : RG P q C M) (hq : IJ P q) {k : Nat} (hk : ¬ P k) (hK : ∀ a M', RG (fun j => P j ∨ j = k) (va_up q k a) (va_up C k x) M' → IJ (fun j => P j ∨ j = k) (va_up q k a) → K a M') : mnw z M x K := g_nwz hM hq hk (fun a M' h1 h2 _ => hK a M' h1 h2)
set_option maxHeartbeats 400000 in
/-- a part of the region, with its own numbers -/
theorem RG_sub {P : Nat → Prop} {q : Nat → Nat} {C : Nat → va_E} {M : Mm} (hM : RG P q C M) {n : Nat} (ι : Nat → Nat) (hι : ∀ k, k < n ∧ k ≠ 29 → P (ι k)) {D : Nat → va_E} (e : ∀ k, k < n ∧ k ≠ 29 → C (ι k) = D k) : Rg n (fun k => q (ι k)) D M := fun k hk => by rw [← e k hk]; exact hM _ (hι k hk)
set_option maxHeartbeats 400000 in
theorem IJ_sub {P : Nat → Prop} {q : Nat → Nat} (hq : IJ P q) {n : Nat} (ι : Nat → Nat) (hι : ∀ k, k < n ∧ k ≠ 29 → P (ι k)) (hi : ∀ i j, i < n ∧ i ≠ 29 → j < n ∧ j ≠ 29 → ι i = ι j → i = j) : Ij n (fun k => q (ι k)) := fun i j h1 h2 e => hi i j h1 h2 (hq _ _ (hι i h1) (hι j h2) e)
set_option maxHeartbeats 400000 in
/-- back again -/
theorem RG_back {P : Nat → Prop} {q : Nat → Nat} {C : Nat → va_E} {M M' : Mm} (hM : RG P q C M) (hq : IJ P q) {n : Nat} (ι : Nat → Nat) (hι : ∀ k, k < n ∧ k ≠ 29 → P (ι k)) {D : Nat → va_E} (hD : Rg n (fun k => q (ι k)) D M') (hf : fr n (fun k => q (ι k)) M M') {C' : Nat → va_E} (e1 : ∀ k, k < n ∧ k ≠ 29 → C' (ι k) = D k) (e2 : ∀ j, P j → (∀ k, k < n ∧ k ≠ 29 → j ≠ ι k) → C' j = C j) : RG P q C' M' := fun j hj => by
  by_cases h : ∃ k, (k < n ∧ k ≠ 29) ∧ j = ι k
  · obtain ⟨k, hk, rfl⟩ := h
    rw [e1 k hk]
    exact hD k hk
  · have hn : ∀ k, k < n ∧ k ≠ 29 → j ≠ ι k := fun k hk e => h ⟨k, hk, e⟩
    rw [e2 j hj hn]
    exact fr_mat hf (fun k hk e => hn k hk (hq _ _ hj (hι k hk) e)) (hM j hj)
