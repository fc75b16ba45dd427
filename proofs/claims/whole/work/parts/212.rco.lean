-- the reference's table of what is unspent: come, clear
def rCn (rw : Nat → List Int32) (V : Nat → Nat → Prop) (tG oG : Nat → Nat → Nat) (gI gO gOs gT : Nat → Int32) : Prop := ∀ b t, V b t → (tG b t < 2200 ∧ oG b t + (txO rw b t).2.2.2.1.length ≤ 11600) ∧ (∀ i, i < 8 → gI (8 * tG b t + i) = nI (leP (idT rw b t) (4 * i) 4)) ∧ gO (tG b t) = nI (oG b t) ∧ gOs (tG b t) = nI (txO rw b t).2.2.2.1.length ∧ ∀ j, j < (txO rw b t).2.2.2.1.length → gT (oG b t + j) = nI (tG b t)
def cnH (hgt : Nat → Nat) (c : Cn) : Int32 := if c.2.1 = 0 then (-1 : Int32) - nI (hgt c.1) else nI (hgt c.1)
def cnW (rw : Nat → List Int32) (c : Cn) : Nat := plc (nI (leP (idT rw c.1 c.2.1) 0 4)) (nI c.2.2)
def liv (N : Nat) (uI : Nat → Int32) (cs : Nat → Cn) : List Cn := ((List.range N).filter fun e => decide (uI e = 1)).map cs
/-- the table -/
def rTab (rw : Nat → List Int32) (hgt : Nat → Nat) (V : Nat → Nat → Prop) (oG : Nat → Nat → Nat) (N : Nat) (cs : Nat → Cn) (uO uH uN ch uI : Nat → Int32) : Prop := (∀ e, e < N → (V (cs e).1 (cs e).2.1 ∧ (cs e).2.2 < (txO rw (cs e).1 (cs e).2.1).2.2.2.1.length) ∧ uO e = nI (oG (cs e).1 (cs e).2.1 + (cs e).2.2) ∧ uH e = cnH hgt (cs e) ∧ (uI e = 0 ∨ uI e = 1)) ∧ chP N (fun e => cnW rw (cs e)) uN ch ∧ ∀ e e', e < N → e' < N → uI e = 1 → uI e' = 1 → cnK rw (cs e) = cnK rw (cs e') → e = e'
set_option maxHeartbeats 1000000 in
theorem idT_f (rw : Nat → List Int32) (b t j : Nat) : fits .byte (.int (idT rw b t j)) = true := dbl_f _ _ _
set_option maxHeartbeats 1000000 in
theorem rTab_e {rw : Nat → List Int32} {hgt : Nat → Nat} {V : Nat → Nat → Prop} {tG oG : Nat → Nat → Nat} {N : Nat} {cs : Nat → Cn} {gI gO gOs gT uO uH uN ch uI : Nat → Int32} (hG : rCn rw V tG oG gI gO gOs gT) (hT : rTab rw hgt V oG N cs uO uH uN ch uI) : enE N (fun e => idT rw (cs e).1 (cs e).2.1) (fun e => (cs e).2.2) (fun e => oG (cs e).1 (cs e).2.1 + (cs e).2.2) (fun e => tG (cs e).1 (cs e).2.1) (fun e => oG (cs e).1 (cs e).2.1) gI gO gT uO uI := fun e he => by
  obtain ⟨⟨v1, v2⟩, h2, h3, h4⟩ := hT.1 e he
  obtain ⟨⟨g1, g2⟩, g3, g4, g5, g6⟩ := hG _ _ v1
  exact ⟨⟨h2, g6 _ v2, g4, rfl, show oG (cs e).1 (cs e).2.1 + (cs e).2.2 < 11600 by omega, g1⟩, g3, fun j _ => idT_f _ _ _ _, h4⟩
set_option maxHeartbeats 1000000 in
theorem mem_liv {N : Nat} {uI : Nat → Int32} {cs : Nat → Cn} {c : Cn} : c ∈ liv N uI cs ↔ ∃ e, e < N ∧ uI e = 1 ∧ cs e = c := by
  unfold liv
  rw [List.mem_map]
  constructor
  · rintro ⟨e, he, rfl⟩
    rw [List.mem_filter, List.mem_range] at he
    exact ⟨e, he.1, of_decide_eq_true he.2, rfl⟩
  · rintro ⟨e, he, h1, rfl⟩
    exact ⟨e, List.mem_filter.mpr ⟨List.mem_range.mpr he, decide_eq_true h1⟩, rfl⟩
set_option maxHeartbeats 1000000 in
theorem fnd_n {rw : Nat → List Int32} {N : Nat} {uI : Nat → Int32} {cs : Nat → Cn} {K : List Int32 × Nat} (h : ∀ e, e < N → uI e = 1 → cnK rw (cs e) ≠ K) : fnd rw (liv N uI cs) K = none := by
  unfold fnd
  rw [List.find?_eq_none]
  intro c hc
  obtain ⟨e, he, h1, rfl⟩ := mem_liv.mp hc
  simp only [decide_eq_true_eq]
  exact h e he h1
set_option maxHeartbeats 1000000 in
theorem fnd_s {rw : Nat → List Int32} {N : Nat} {uI : Nat → Int32} {cs : Nat → Cn} {K : List Int32 × Nat} (hu : ∀ e e', e < N → e' < N → uI e = 1 → uI e' = 1 → cnK rw (cs e) = cnK rw (cs e') → e = e') {e : Nat} (he : e < N) (h1 : uI e = 1) (hk : cnK rw (cs e) = K) : fnd rw (liv N uI cs) K = some (cs e) := by
  cases hf : fnd rw (liv N uI cs) K with
  | none =>
    unfold fnd at hf
    rw [List.find?_eq_none] at hf
    exact absurd (decide_eq_true hk) (hf _ (mem_liv.mpr ⟨e, he, h1, rfl⟩))
  | some c =>
    unfold fnd at hf
    have hp : cnK rw c = K := by
      have := List.find?_some hf
      exact of_decide_eq_true this
    obtain ⟨e', he', h1', rfl⟩ := mem_liv.mp (List.mem_of_find?_eq_some hf)
    rw [hu e e' he he' h1 h1' (hk.trans hp.symm)]
set_option maxHeartbeats 1000000 in
/-- entry, in coins -/
theorem v_M_entryC (fu : Nat) (hfu : 12000 ≤ fu) (z gI gO gOs gT uO uH uN ch uI : Nat → Int32) {rw : Nat → List Int32} {hgt : Nat → Nat} {V : Nat → Nat → Prop} {tG oG : Nat → Nat → Nat} {N : Nat} {cs : Nat → Cn} (hN : N ≤ 11600) (hG : rCn rw V tG oG gI gO gOs gT) (hT : rTab rw hgt V oG N cs uO uH uN ch uI) {n1 : Nat} (hn1 : n1 < 2 ^ 30) {h1 : Nat → Int32} {a : Nat} (ha : a + 32 ≤ n1) (hh : ∀ j, j < 32 → fits .byte (.int (h1 (a + j))) = true) {x3 : Nat} (hx3 : x3 < 2 ^ 32) : ok (x_M_entry fu z gI gO gT uO uN ch uI n1 h1 (nI a) (nI x3)) (fun y => (y = -1 ∧ (∀ e, e < N → uI e = 1 → cnK rw (cs e) ≠ (bl h1 a 32, x3)) ∧ fnd rw (liv N uI cs) (bl h1 a 32, x3) = none) ∨ ∃ e, e < N ∧ uI e = 1 ∧ cnK rw (cs e) = (bl h1 a 32, x3) ∧ y = nI e ∧ fnd rw (liv N uI cs) (bl h1 a 32, x3) = some (cs e)) := by
  refine ok_mono (v_M_entry fu hfu z gI gO gT uO uN ch uI hn1 ha hh hN (rTab_e hG hT) hT.2.1 hx3) fun y hy => ?_
  rcases hy with ⟨y1, y2⟩ | ⟨e, y1, y2, y3, y4⟩
  · have q : ∀ e, e < N → uI e = 1 → cnK rw (cs e) ≠ (bl h1 a 32, x3) := fun e he h1e hk => y2 e he h1e ⟨congrArg Prod.fst hk, congrArg Prod.snd hk⟩
    exact Or.inl ⟨y1, q, fnd_n q⟩
  · have hk : cnK rw (cs e) = (bl h1 a 32, x3) := Prod.ext y3.1 y3.2
    exact Or.inr ⟨e, y1, y2, hk, y4, fnd_s hT.2.2 y1 y2 hk⟩
set_option maxHeartbeats 1000000 in
/-- an entry is no longer unspent -/
theorem rTab_0 {rw : Nat → List Int32} {hgt : Nat → Nat} {V : Nat → Nat → Prop} {oG : Nat → Nat → Nat} {N : Nat} {cs : Nat → Cn} {uO uH uN ch uI : Nat → Int32} (hT : rTab rw hgt V oG N cs uO uH uN ch uI) (e : Nat) : rTab rw hgt V oG N cs uO uH uN ch (upd uI e 0) := by
  have hle : ∀ e', upd uI e 0 e' = 1 → uI e' = 1 := fun e' h => by
    by_cases q : e' = e
    · rw [q, pk_us] at h; exact absurd h (by decide)
    · rw [pk_un q] at h; exact h
  refine ⟨fun e' he => ?_, hT.2.1, fun e1 e2 h1 h2 h3 h4 h5 => hT.2.2 e1 e2 h1 h2 (hle e1 h3) (hle e2 h4) h5⟩
  obtain ⟨a1, a2, a3, a4⟩ := hT.1 e' he
  refine ⟨a1, a2, a3, ?_⟩
  by_cases q : e' = e
  · rw [q, pk_us]; exact Or.inl rfl
  · rw [pk_un q]; exact a4
set_option maxHeartbeats 1000000 in
theorem liv_0 {rw : Nat → List Int32} {N : Nat} {uI : Nat → Int32} {cs : Nat → Cn} (hu : ∀ e e', e < N → e' < N → uI e = 1 → uI e' = 1 → cnK rw (cs e) = cnK rw (cs e') → e = e') {e : Nat} (he : e < N) (h1 : uI e = 1) {K : List Int32 × Nat} (hk : cnK rw (cs e) = K) : liv N (upd uI e 0) cs = (liv N uI cs).filter fun c => decide (cnK rw c ≠ K) := by
  unfold liv
  rw [List.filter_map, List.filter_filter]
  congr 1
  refine List.filter_congr fun e' he' => ?_
  rw [List.mem_range] at he'
  show decide (upd uI e 0 e' = 1) = (decide (cnK rw (cs e') ≠ K) && decide (uI e' = 1))
  by_cases q : e' = e
  · subst q
    have e1 : decide (cnK rw (cs e') ≠ K) = false := decide_eq_false (fun z => z hk)
    rw [pk_us, e1, Bool.false_and]
    rfl
  · rw [pk_un q]
    by_cases c : uI e' = 1
    · have e1 : decide (cnK rw (cs e') ≠ K) = true := decide_eq_true (fun z => q (hu e' e he' he c h1 (z.trans hk.symm)))
      rw [e1, Bool.true_and]
    · rw [decide_eq_false c, Bool.and_false]
set_option maxHeartbeats 1000000 in
theorem liv_n {rw : Nat → List Int32} {N : Nat} {uI : Nat → Int32} {cs : Nat → Cn} {K : List Int32 × Nat} (h : ∀ e, e < N → uI e = 1 → cnK rw (cs e) ≠ K) : (liv N uI cs).filter (fun c => decide (cnK rw c ≠ K)) = liv N uI cs := by
  rw [List.filter_eq_self]
  intro c hc
  obtain ⟨e, he, h1, rfl⟩ := mem_liv.mp hc
  exact decide_eq_true (h e he h1)
set_option maxHeartbeats 1000000 in
/-- a new entry -/
theorem rTab_1 {rw : Nat → List Int32} {hgt : Nat → Nat} {V : Nat → Nat → Prop} {oG : Nat → Nat → Nat} {N : Nat} {cs : Nat → Cn} {uO uH uN ch uI : Nat → Int32} (hN : N < 11600) (hT : rTab rw hgt V oG N cs uO uH uN ch uI) {c : Cn} (hV : V c.1 c.2.1) (hj : c.2.2 < (txO rw c.1 c.2.1).2.2.2.1.length) (hno : ∀ e, e < N → uI e = 1 → cnK rw (cs e) ≠ cnK rw c) : rTab rw hgt V oG (N + 1) (va_up cs N c) (upd uO N (nI (oG c.1 c.2.1 + c.2.2))) (upd uH N (cnH hgt c)) (upd uN N (ch (cnW rw c))) (upd ch (cnW rw c) (nI N)) (upd uI N 1) ∧ liv (N + 1) (upd uI N 1) (va_up cs N c) = liv N uI cs ++ [c] := by
  refine ⟨⟨fun e he => ?_, fun p hp => ?_, fun e1 e2 h1 h2 h3 h4 h5 => ?_⟩, ?_⟩
  · by_cases q : e = N
    · subst q
      rw [up_e, pk_us, pk_us, pk_us]
      exact ⟨⟨hV, hj⟩, rfl, rfl, Or.inr rfl⟩
    · rw [up_n q, pk_un q, pk_un q, pk_un q]
      exact hT.1 e (by omega)
  · obtain ⟨L, l1, l2, l3, l4⟩ := hT.2.1 p hp
    have lN : ∀ e, e ∈ L → e ≠ N := fun e he z => by have := l3 e he; omega
    have hc : chW (upd uN N (ch (cnW rw c))) (ch p) L := chW_c L _ l1 (fun e he => pk_un (lN e he))
    by_cases q : p = cnW rw c
    · subst q
      refine ⟨N :: L, ⟨pk_us, by omega, by rw [pk_us]; exact hc⟩, fun e he hp => ?_, fun e he => ?_, by rw [List.length_cons]; omega⟩
      · replace hp : cnW rw (va_up cs N c e) = cnW rw c := hp
        by_cases z : e = N
        · rw [z]; exact List.mem_cons_self
        · rw [up_n z] at hp
          exact List.mem_cons_of_mem _ (l2 e (by omega) hp)
      · rcases List.mem_cons.mp he with rfl | he
        · omega
        · have := l3 e he; omega
    · refine ⟨L, by rw [pk_un q]; exact hc, fun e he hp => ?_, fun e he => by have := l3 e he; omega, by omega⟩
      replace hp : cnW rw (va_up cs N c e) = p := hp
      by_cases z : e = N
      · rw [z, up_e] at hp
        exact absurd hp.symm q
      · rw [up_n z] at hp
        exact l2 e (by omega) hp
  · by_cases q1 : e1 = N
    · by_cases q2 : e2 = N
      · rw [q1, q2]
      · rw [q1, up_e, up_n q2] at h5
        rw [pk_un q2] at h4
        exact absurd h5.symm (hno e2 (by omega) h4)
    · by_cases q2 : e2 = N
      · rw [q2, up_e, up_n q1] at h5
        rw [pk_un q1] at h3
        exact absurd h5 (hno e1 (by omega) h3)
      · rw [up_n q1, up_n q2] at h5
        rw [pk_un q1] at h3
        rw [pk_un q2] at h4
        exact hT.2.2 e1 e2 (by omega) (by omega) h3 h4 h5
  · unfold liv
    rw [List.range_succ, List.filter_append, List.map_append]
    congr 1
    · rw [List.filter_congr (q := fun e => decide (uI e = 1)) (fun e he => by rw [List.mem_range] at he; rw [pk_un (by omega)])]
      refine List.map_congr_left fun e he => ?_
      have := List.mem_range.mp (List.mem_filter.mp he).1
      exact up_n (by omega)
    · rw [List.filter_cons_of_pos (by rw [pk_us]; decide), List.filter_nil, List.map_cons, List.map_nil, up_e]
