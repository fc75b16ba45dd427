-- the ledger in the memory: a coin comes or goes
def oK (rw : Nat → List Int32) (nb : Nat) : Prop := ∀ c, cVd rw nb c → ckO rw c < 504
set_option maxHeartbeats 400000 in
theorem ck_ij {rw : Nat → List Int32} {nb : Nat} (hO : oK rw nb) {c c' : Cn} (h : cVd rw nb c) (h' : cVd rw nb c') (e : ck rw c = ck rw c') : c = c' := by
  have o1 := hO c h
  have o2 := hO c' h'
  have e1 : c.1 = c'.1 := by
    unfold ck kB at e
    omega
  obtain ⟨b, t, j⟩ := c
  obtain ⟨b', t', j'⟩ := c'
  replace e1 : b = b' := e1
  subst e1
  have e2 : nOut ((TLb rw b).take t) + j = nOut ((TLb rw b).take t') + j' := by
    unfold ck ckO at e
    replace e : kB b + 8 + (nOut ((TLb rw b).take t) + j) = kB b + 8 + (nOut ((TLb rw b).take t') + j') := e
    omega
  obtain ⟨e3, e4⟩ := coin_ij h.1.2 h.2 h'.1.2 h'.2 e2
  replace e3 : t = t' := e3
  replace e4 : j = j' := e4
  subst e3 e4
  rfl
def upS (sl : Cn → Int32) (c : Cn) (s : Int32) (x : Cn) : Int32 := if x = c then s else sl x
set_option maxHeartbeats 400000 in
theorem bkR_sl {P : Nat → Prop} {q : Nat → Nat} {C : Nat → va_E} {cy : Nat → ClassId} {nb : Nat} {par hgt tim : Nat → Nat} {bit : Nat → Int32} {bad : Nat → Bool} {rw : Nat → List Int32} {vl : Nat → Bool} {mk : Nat → Nat} {sl : Cn → Int32} (hB : bkR P q C cy nb par hgt tim bit bad rw vl mk sl) (hO : oK rw nb) {c : Cn} (hc : cVd rw nb c) (s : Int32) : bkR P q (va_up C (ck rw c) (coO q rw c s)) cy nb par hgt tim bit bad rw vl mk (upS sl c s) := by
  have oc := hO c hc
  have hk : ∀ b i, i < 8 → kB b + i ≠ ck rw c := fun b i hi e => by
    unfold ck kB at e
    omega
  refine ⟨fun b hb => ?_, fun x hx => ?_⟩
  · obtain ⟨p, c0, c1, ⟨g, c2, c2'⟩, ⟨n, g3, c3, c3'⟩, c4⟩ := hB.1 b hb
    refine ⟨p, (up_n (hk b 0 (by decide))).trans c0, (up_n (hk b 1 (by decide))).trans c1, ⟨g, (up_n (hk b 2 (by decide))).trans c2, c2'⟩, ⟨n, g3, (up_n (hk b 3 (by decide))).trans c3, c3'⟩, fun h0 => ?_⟩
    obtain ⟨f, f1, f2⟩ := c4 h0
    exact ⟨f, (up_n (hk b 4 (by decide))).trans f1, f2⟩
  · obtain ⟨p, e⟩ := hB.2 x hx
    refine ⟨p, ?_⟩
    by_cases z : x = c
    · subst z
      rw [up_e]
      unfold upS
      rw [if_pos rfl]
    · rw [up_n (fun y => z (ck_ij hO hx hc y))]
      unfold upS
      rw [if_neg z]
      exact e
/-- the ledger: L is unspent, H are the changes -/
def ldS (P : Nat → Prop) (q : Nat → Nat) (C : Nat → va_E) (cy : Nat → ClassId) (ad : Nat → Nat) (nb : Nat) (par hgt tim : Nat → Nat) (bit : Nat → Int32) (bad : Nat → Bool) (rw : Nat → List Int32) (vl : Nat → Bool) (mk : Nat → Nat) (sl : Cn → Int32) (L H : List Cn) (cu ch : Nat) : Prop := (IJ P q ∧ (∀ k, k < 138 ∧ k ≠ 29 ∧ k ≠ 137 ∧ k ≠ 135 → P k) ∧ ¬ P 223 ∧ q 135 = ad 26) ∧ bkR P q C cy nb par hgt tim bit bad rw vl mk sl ∧ C 130 = .inr (5, [.ref (q 131), .ref (q 132)]) ∧ alR P q C cy 131 220 (L.map (ck rw)) cu ∧ alR P q C cy 132 221 (H.map (ck rw)) ch ∧ (∀ c, c ∈ L → cVd rw nb c) ∧ (∀ c, c ∈ H → cVd rw nb c) ∧ L.Nodup ∧ (∀ i, i < L.length → sl (L.getD i e_C) = nI i) ∧ ∀ c, cVd rw nb c → c ∉ L → sl c = -1
def leF (P : Nat → Prop) (q : Nat → Nat) (C : Nat → va_E) (P' : Nat → Prop) (q' : Nat → Nat) (C' : Nat → va_E) : Prop := (∀ j, P j → P' j) ∧ (∀ j, P' j → P j ∨ j = 220 ∨ j = 221) ∧ (∀ j, j ≠ 220 → j ≠ 221 → q' j = q j) ∧ ∀ j, j < 256 → j ≠ 131 → j ≠ 132 → j ≠ 220 → j ≠ 221 → C' j = C j
set_option maxHeartbeats 400000 in
theorem leF_r {P : Nat → Prop} {q : Nat → Nat} {C : Nat → va_E} : leF P q C P q C := ⟨fun _ h => h, fun _ h => Or.inl h, fun _ _ _ => rfl, fun _ _ _ _ _ _ => rfl⟩
set_option maxHeartbeats 400000 in
theorem leF_t {P P1 P2 : Nat → Prop} {q q1 q2 : Nat → Nat} {C C1 C2 : Nat → va_E} (h1 : leF P q C P1 q1 C1) (h2 : leF P1 q1 C1 P2 q2 C2) : leF P q C P2 q2 C2 := by
  refine ⟨fun j h => h2.1 j (h1.1 j h), fun j h => ?_, fun j a b => (h2.2.2.1 j a b).trans (h1.2.2.1 j a b), fun j a b c d e => (h2.2.2.2 j a b c d e).trans (h1.2.2.2 j a b c d e)⟩
  rcases h2.2.1 j h with h | h
  · exact h1.2.1 j h
  · exact Or.inr h
set_option maxHeartbeats 400000 in
theorem gDc {L : List Cn} {i : Nat} (h : i < L.length) (rw : Nat → List Int32) : (L.map (ck rw)).getD i 0 = ck rw (L.getD i e_C) := by
  rw [List.getD_eq_getElem?_getD, List.getElem?_map, List.getD_eq_getElem?_getD, List.getElem?_eq_getElem h]
  rfl
set_option maxHeartbeats 400000 in
theorem gDe {L : List Cn} {i : Nat} (h : i < L.length) : L.getD i e_C ∈ L := by
  rw [List.getD_eq_getElem?_getD, List.getElem?_eq_getElem h]
  exact List.getElem_mem h
set_option maxHeartbeats 400000 in
theorem me_gD {L : List Cn} {c : Cn} (h : c ∈ L) : ∃ i, i < L.length ∧ L.getD i e_C = c := by
  obtain ⟨i, hi, e⟩ := List.mem_iff_getElem.mp h
  refine ⟨i, hi, ?_⟩
  rw [List.getD_eq_getElem?_getD, List.getElem?_eq_getElem hi]
  exact e
set_option maxHeartbeats 400000 in
theorem nd_gD {L : List Cn} (h : L.Nodup) {i j : Nat} (hi : i < L.length) (hj : j < L.length) (e : L.getD i e_C = L.getD j e_C) : i = j := by
  rw [List.getD_eq_getElem?_getD, List.getElem?_eq_getElem hi, List.getD_eq_getElem?_getD, List.getElem?_eq_getElem hj] at e
  exact (List.getElem_inj h).mp e
set_option maxHeartbeats 400000 in
theorem ck_b {rw : Nat → List Int32} (c : Cn) : 264 ≤ ck rw c := by
  unfold ck kB
  omega
/-- how many places the list has then -/
def flU (L : List Cn) (c : Cn) (cu : Nat) : Nat := if c ∈ L then cu else ncp cu L.length
def tgl (L L' : List Cn) (c : Cn) : Prop := ∀ x, x ∈ L' ↔ (x ≠ c ∧ x ∈ L) ∨ (x = c ∧ c ∉ L)
set_option maxHeartbeats 400000 in
theorem set_gD {L : List Cn} {i j : Nat} {d : Cn} (hi : i < L.length) : (L.set i d).getD j e_C = if j = i then d else L.getD j e_C := by
  rw [List.getD_eq_getElem?_getD, List.getElem?_set]
  by_cases z : i = j
  · rw [if_pos z, if_pos hi, if_pos z.symm]
    rfl
  · rw [if_neg z, if_neg (fun e => z e.symm), List.getD_eq_getElem?_getD]
set_option maxHeartbeats 400000 in
/-- the last one goes to the place of c -/
theorem set_L {L : List Cn} {d c : Cn} {i : Nat} (hn : (L ++ [d]).Nodup) (hi : i < L.length) (hc : L.getD i e_C = c) : (L.set i d).Nodup ∧ tgl (L ++ [d]) (L.set i d) c := by
  have hL : L.Nodup := (List.nodup_append.mp hn).1
  have hd : d ∉ L := fun z => (List.nodup_append.mp hn).2.2 d z d (List.mem_singleton.mpr rfl) rfl
  have hcL : c ∈ L := hc ▸ gDe hi
  have hdc : d ≠ c := fun e => hd (e ▸ hcL)
  have hm : ∀ x, x ∈ L.set i d ↔ x = d ∨ (x ≠ c ∧ x ∈ L) := fun x => by
    constructor
    · intro h
      obtain ⟨j, hj, e⟩ := me_gD h
      rw [List.length_set] at hj
      rw [set_gD hi] at e
      by_cases z : j = i
      · rw [if_pos z] at e
        exact Or.inl e.symm
      · rw [if_neg z] at e
        exact Or.inr ⟨fun y => z (nd_gD hL hj hi (e.trans (y.trans hc.symm))), e ▸ gDe hj⟩
    · intro h
      rcases h with h | ⟨h1, h2⟩
      · rw [h]
        exact List.mem_set hi d
      · obtain ⟨j, hj, e⟩ := me_gD h2
        have z : j ≠ i := fun z => h1 (by rw [← e, z, hc])
        have : (L.set i d).getD j e_C = x := by rw [set_gD hi, if_neg z]; exact e
        rw [← this]
        exact gDe (by rw [List.length_set]; exact hj)
  refine ⟨?_, fun x => ?_⟩
  · refine List.pairwise_iff_getElem.mpr fun a b ha hb hab e => ?_
    have ha' : a < L.length := by rw [List.length_set] at ha; exact ha
    have hb' : b < L.length := by rw [List.length_set] at hb; exact hb
    have e' : (L.set i d).getD a e_C = (L.set i d).getD b e_C := by
      rw [List.getD_eq_getElem?_getD, List.getElem?_eq_getElem ha, List.getD_eq_getElem?_getD, List.getElem?_eq_getElem hb, e]
    rw [set_gD hi, set_gD hi] at e'
    have : a = b := by
      by_cases za : a = i
      · by_cases zb : b = i
        · rw [za, zb]
        · rw [if_pos za, if_neg zb] at e'
          exact absurd (e' ▸ gDe hb') hd
      · by_cases zb : b = i
        · rw [if_neg za, if_pos zb] at e'
          exact absurd (e' ▸ gDe ha') hd
        · rw [if_neg za, if_neg zb] at e'
          exact nd_gD hL ha' hb' e'
    omega
  · rw [hm]
    constructor
    · intro h
      rcases h with h | ⟨h1, h2⟩
      · rw [h]
        exact Or.inl ⟨hdc, List.mem_append_right _ (List.mem_singleton.mpr rfl)⟩
      · exact Or.inl ⟨h1, List.mem_append_left _ h2⟩
    · intro h
      rcases h with ⟨h1, h2⟩ | ⟨h1, h2⟩
      · rcases List.mem_append.mp h2 with h2 | h2
        · exact Or.inr ⟨h1, h2⟩
        · exact Or.inl (List.mem_singleton.mp h2)
      · exact absurd (List.mem_append_left _ hcL) h2
set_option maxHeartbeats 400000 in
theorem drop_L {L : List Cn} {c : Cn} (hn : (L ++ [c]).Nodup) : L.Nodup ∧ tgl (L ++ [c]) L c := by
  have hd : c ∉ L := fun z => (List.nodup_append.mp hn).2.2 c z c (List.mem_singleton.mpr rfl) rfl
  refine ⟨(List.nodup_append.mp hn).1, fun x => ⟨fun h => Or.inl ⟨fun e => hd (e ▸ h), List.mem_append_left _ h⟩, fun h => ?_⟩⟩
  rcases h with ⟨h1, h2⟩ | ⟨h1, h2⟩
  · rcases List.mem_append.mp h2 with h2 | h2
    · exact h2
    · exact absurd (List.mem_singleton.mp h2) h1
  · exact absurd (List.mem_append_right _ (List.mem_singleton.mpr rfl)) h2
