-- bytes as lists, words, what is the same
def bl (p : Nat → Int32) : Nat → Nat → List Int32
  | _, 0 => []
  | a, n + 1 => p a :: bl p (a + 1) n
set_option maxHeartbeats 400000 in
theorem bl_s (p : Nat → Int32) (a n : Nat) : bl p a (n + 1) = p a :: bl p (a + 1) n := rfl
set_option maxHeartbeats 400000 in
theorem bl_0 (p : Nat → Int32) (a : Nat) : bl p a 0 = [] := rfl
set_option maxHeartbeats 400000 in
theorem bl_len (p : Nat → Int32) : ∀ n a, (bl p a n).length = n
  | 0, a => rfl
  | n + 1, a => by rw [bl_s, List.length_cons, bl_len p n]
set_option maxHeartbeats 400000 in
theorem bl_get (p : Nat → Int32) (d : Int32) : ∀ n a i, i < n → (bl p a n).getD i d = p (a + i)
  | 0, a, i, h => by omega
  | n + 1, a, 0, h => rfl
  | n + 1, a, i + 1, h => by
    rw [bl_s, List.getD_cons_succ, bl_get p d n (a + 1) i (by omega), show a + 1 + i = a + (i + 1) from by omega]
set_option maxHeartbeats 400000 in
theorem bl_drop (p : Nat → Int32) : ∀ b n a, (bl p a n).drop b = bl p (a + b) (n - b)
  | 0, n, a => rfl
  | b + 1, 0, a => by rw [Nat.zero_sub]; rfl
  | b + 1, n + 1, a => by
    rw [bl_s, List.drop_succ_cons, bl_drop p b n (a + 1), show a + 1 + b = a + (b + 1) from by omega, show n + 1 - (b + 1) = n - b from by omega]
set_option maxHeartbeats 400000 in
theorem bl_take (p : Nat → Int32) : ∀ b n a, b ≤ n → (bl p a n).take b = bl p a b
  | 0, n, a, _ => by rw [List.take_zero]; rfl
  | b + 1, 0, a, h => by omega
  | b + 1, n + 1, a, h => by
    rw [bl_s, List.take_succ_cons, bl_take p b n (a + 1) (by omega)]; rfl
set_option maxHeartbeats 400000 in
theorem bl_c {p p' : Nat → Int32} : ∀ n a a', (∀ i, i < n → p (a + i) = p' (a' + i)) → bl p a n = bl p' a' n
  | 0, a, a', _ => rfl
  | n + 1, a, a', h => by
    rw [bl_s, bl_s, bl_c n (a + 1) (a' + 1) (fun i hi => by rw [Nat.add_right_comm a 1 i, Nat.add_right_comm a' 1 i]; exact h (i + 1) (by omega)), show p a = p' a' from h 0 (by omega)]
set_option maxHeartbeats 400000 in
theorem bl_i {p p' : Nat → Int32} {n a a' : Nat} (e : bl p a n = bl p' a' n) {i : Nat} (hi : i < n) : p (a + i) = p' (a' + i) := by
  rw [← bl_get p 0 n a i hi, ← bl_get p' 0 n a' i hi, e]
def leL : List Int32 → Nat
  | [] => 0
  | x :: L => By x + leL L * 2 ^ 8
set_option maxHeartbeats 400000 in
theorem leL_bl (p : Nat → Int32) : ∀ n a, leL (bl p a n) = leP p a n
  | 0, a => rfl
  | n + 1, a => by
    rw [bl_s]
    show By (p a) + leL (bl p (a + 1) n) * 2 ^ 8 = _
    rw [leL_bl p n (a + 1)]
    exact (leP_sh p a 0 n).symm
def tf (P : Prop) (x : Int32) : Prop := (P ∧ x = 1) ∨ (¬ P ∧ x = 0)
set_option maxHeartbeats 400000 in
theorem tf_c {P Q : Prop} {x : Int32} (e : P ↔ Q) (h : tf P x) : tf Q x := by
  rcases h with ⟨h1, h2⟩ | ⟨h1, h2⟩
  · exact Or.inl ⟨e.mp h1, h2⟩
  · exact Or.inr ⟨fun q => h1 (e.mpr q), h2⟩
set_option maxHeartbeats 400000 in
theorem tf_1 {P : Prop} (h : P) : tf P 1 := Or.inl ⟨h, rfl⟩
set_option maxHeartbeats 400000 in
theorem tf_0 {P : Prop} (h : ¬ P) : tf P 0 := Or.inr ⟨h, rfl⟩
set_option maxHeartbeats 400000 in
/-- a test of a truth -/
theorem ok_tf {β : Type} {P : Prop} {v : Int32} {a b : Option β} {Q : β → Prop} (h : tf P v) (ha : ¬ P → ok a Q) (hb : P → ok b Q) : ok (if v = 0 then a else b) Q := by
  rcases h with ⟨h1, h2⟩ | ⟨h1, h2⟩
  · rw [h2, if_neg (by decide)]; exact hb h1
  · rw [h2, if_pos rfl]; exact ha h1
def fa (Q : Nat → Prop) (j n : Nat) : Prop := ∀ m, j ≤ m → m < n → Q m
set_option maxHeartbeats 400000 in
theorem fa_e {Q : Nat → Prop} {j n : Nat} (h : n ≤ j) : fa Q j n := fun m h1 h2 => by omega
set_option maxHeartbeats 400000 in
theorem fa_s {Q : Nat → Prop} {j n : Nat} (h : Q j) : fa Q (j + 1) n ↔ fa Q j n := by
  constructor
  · intro q m h1 h2
    by_cases e : m = j
    · rw [e]; exact h
    · exact q m (by omega) h2
  · intro q m h1 h2
    exact q m (by omega) h2
set_option maxHeartbeats 400000 in
theorem fa_n {Q : Nat → Prop} {j n : Nat} (hj : j < n) (h : ¬ Q j) : ¬ fa Q j n := fun q => h (q j (Nat.le_refl _) hj)
set_option maxHeartbeats 400000 in
theorem fa_c {Q Q' : Nat → Prop} {j n : Nat} (h : ∀ m, j ≤ m → m < n → (Q m ↔ Q' m)) : fa Q j n ↔ fa Q' j n := ⟨fun q m a b => (h m a b).mp (q m a b), fun q m a b => (h m a b).mpr (q m a b)⟩
set_option maxHeartbeats 400000 in
theorem v_K_word (fu n0 : Nat) (hn0 : n0 < 2 ^ 31) (p : Nat → Int32) {o : Nat} (ho : o + 4 ≤ n0) : x_K_word fu n0 p (nI o) = some (nI (leP p o 4)) := by
  unfold x_K_word
  rw [show nI o + (1 : Int32) = nI (o + 1) from nI_1 o, show nI o + (2 : Int32) = nI (o + 2) from nI_add o 2, show nI o + (3 : Int32) = nI (o + 3) from nI_add o 3]
  simp only [↓bnd_q]
  rw [gd_t (inb_nI (by omega) (by omega)), gd_t (inb_nI (by omega) (by omega)), gd_t (inb_nI (by omega) (by omega)), gd_t (inb_nI (by omega) (by omega)), nI_clamp (n := o) (by omega), nI_clamp (n := o + 1) (by omega), nI_clamp (n := o + 2) (by omega), nI_clamp (n := o + 3) (by omega), ← i_24, and255, and255, and255, and255]
  have b0 := By_lt (p o)
  have b1 := By_lt (p (o + 1))
  have b2 := By_lt (p (o + 2))
  have b3 := By_lt (p (o + 3))
  rw [pk_shlN ((8 : Int32) &&& 31) 8 (by decide) (by omega), pk_shlN ((16 : Int32) &&& 31) 16 (by decide) (by omega), pk_shlN ((24 : Int32) &&& 31) 24 (by decide) (by omega), nI_or (by omega) (by omega), nI_or (by omega) (by omega), nI_or (by omega) (by omega)]
  congr 2
  show _ = 0 + By (p o) * 2 ^ 0 + By (p (o + 1)) * 2 ^ 8 + By (p (o + 2)) * 2 ^ 16 + By (p (o + 3)) * 2 ^ 24
  omega
set_option maxHeartbeats 400000 in
theorem l_same (fu n0 n2 : Nat) (h0 h2 : Nat → Int32) {a b l : Nat} (ha : a + l ≤ n0) (hb : b + l ≤ n2) (hn0 : n0 < 2 ^ 30) (hn2 : n2 < 2 ^ 30) : ∀ r i n, i + r = l → r < n → ok (x_K_same_3 fu n0 h0 n2 h2 n (nI a) (nI b) (nI l) (nI i)) (tf (bl h0 (a + i) r = bl h2 (b + i) r)) := by
  intro r
  induction r with
  | zero =>
    intro i n hi hn
    obtain ⟨n, rfl⟩ : ∃ m, n = m + 1 := ⟨n - 1, by omega⟩
    show ok (xb_K_same_3 fu n0 h0 n2 h2 (x_K_same_3 fu n0 h0 n2 h2 n) (nI a) (nI b) (nI l) (nI i)) _
    unfold xb_K_same_3
    exact ok_t ((nI_leI (by omega) (by omega)).mpr (by omega)) (ok_some (tf_1 rfl))
  | succ r ih =>
    intro i n hi hn
    obtain ⟨n, rfl⟩ : ∃ m, n = m + 1 := ⟨n - 1, by omega⟩
    show ok (xb_K_same_3 fu n0 h0 n2 h2 (x_K_same_3 fu n0 h0 n2 h2 n) (nI a) (nI b) (nI l) (nI i)) _
    unfold xb_K_same_3
    refine ok_f (fun q => by have := (nI_leI (by omega) (by omega)).mp q; omega) ?_
    refine ok_bn (nI_add a i) (ok_gd (inb_nI (by omega) (by omega)) (ok_bn (by rw [nI_clamp (n := a + i) (by omega)]) (ok_bn (nI_add b i) (ok_gd (inb_nI (by omega) (by omega)) (ok_bn (by rw [nI_clamp (n := b + i) (by omega)]) ?_)))))
    by_cases q : h0 (a + i) = h2 (b + i)
    · refine ok_t q (ok_bn (nI_1 i) ?_)
      refine ok_mono (ih (i + 1) n (by omega) (by omega)) (fun x hx => tf_c ?_ hx)
      rw [bl_s, bl_s, q, show a + i + 1 = a + (i + 1) from by omega, show b + i + 1 = b + (i + 1) from by omega]
      exact ⟨fun e => by rw [e], fun e => (List.cons.inj e).2⟩
    · refine ok_f q (ok_some (tf_0 fun e => q ?_))
      rw [bl_s, bl_s] at e
      exact (List.cons.inj e).1
set_option maxHeartbeats 400000 in
theorem v_K_same (fu n0 n2 : Nat) (h0 h2 : Nat → Int32) {a b l : Nat} (ha : a + l ≤ n0) (hb : b + l ≤ n2) (hn0 : n0 < 2 ^ 30) (hn2 : n2 < 2 ^ 30) (hfu : l < fu) : ok (x_K_same fu n0 h0 n2 h2 (nI a) (nI b) (nI l)) (tf (bl h0 a l = bl h2 b l)) := by
  unfold x_K_same
  exact l_same fu n0 n2 h0 h2 ha hb hn0 hn2 l 0 fu (by omega) hfu
set_option maxHeartbeats 400000 in
theorem e_same (fu n0 : Nat) (h0 : Nat → Int32) : ∀ n, x_K_same_e20_3 fu n0 h0 n = x_K_same_3 fu n0 h0 n0 h0 n
  | 0 => rfl
  | n + 1 => by
    show xb_K_same_e20_3 fu n0 h0 (x_K_same_e20_3 fu n0 h0 n) = xb_K_same_3 fu n0 h0 n0 h0 (x_K_same_3 fu n0 h0 n0 h0 n)
    rw [e_same fu n0 h0 n]
    rfl
set_option maxHeartbeats 400000 in
theorem v_K_same_e (fu n0 : Nat) (h0 : Nat → Int32) {a b l : Nat} (ha : a + l ≤ n0) (hb : b + l ≤ n0) (hn0 : n0 < 2 ^ 30) (hfu : l < fu) : ok (x_K_same_e20 fu n0 h0 (nI a) (nI b) (nI l)) (tf (bl h0 a l = bl h0 b l)) := by
  unfold x_K_same_e20
  rw [e_same]
  exact l_same fu n0 n0 h0 h0 ha hb hn0 hn0 l 0 fu (by omega) hfu
