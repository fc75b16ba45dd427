-- the class: whether a block is sound; heights, signatures' count
def hgQ (L : List Int32) (h : Nat) : Prop := 2 ≤ L.length ∧ L.length ≤ 100 ∧ (h ≤ 16 → By (L.getD 0 0) = 80 + h) ∧ (16 < h → L.getD 0 0 = 1 ∧ By (L.getD 1 0) = h)
set_option maxHeartbeats 400000 in
theorem v_bw (fu : Nat) (i1 i2 i3 i4 i5 : Int32) (nr : Nat) (hn : nr < 2 ^ 30) (g u7 u8 : Nat → Int32) {s l h : Nat} (h7 : u7 0 = nI s) (h8 : u8 0 = nI (s + l)) (hs : s + l ≤ nr) (hh : h < 128) : ok (x_La_beginsWith fu i1 i2 i3 i4 i5 nr g u7 u8 (nI h)) (tf (hgQ (bl g s l) h)) := by
  unfold x_La_beginsWith
  refine ok_bn (e' := nI s) h7 (ok_bn (e' := nI (s + l)) h8 (ok_bn (e' := nI l) ?_ ?_))
  · rw [← nI_add, Int32.add_comm]
    exact Int32.add_sub_cancel _ _
  rw [show (2 : Int32) = nI 2 from rfl, show (100 : Int32) = nI 100 from rfl, show (16 : Int32) = nI 16 from rfl, show (128 : Int32) = nI 128 from rfl, show (80 : Int32) = nI 80 from rfl]
  by_cases c1 : l < 2
  · refine ok_t ((nI_ltI (by omega) (by omega)).mpr c1) (ok_some (tf_0 fun e => ?_))
    have := e.1
    rw [bl_len] at this
    omega
  refine ok_f (fun e => c1 ((nI_ltI (by omega) (by omega)).mp e)) ?_
  by_cases c2 : l ≤ 100
  · refine ok_t ((nI_leI (by omega) (by omega)).mpr c2) ?_
    have g0 : (bl g s l).getD 0 0 = g s := bl_get g 0 l s 0 (by omega)
    have g1 : (bl g s l).getD 1 0 = g (s + 1) := bl_get g 0 l s 1 (by omega)
    have hB := By_lt (g s)
    have hB1 := By_lt (g (s + 1))
    by_cases c3 : 16 < h
    · refine ok_t ((nI_ltI (by omega) (by omega)).mpr c3) (ok_f (fun e => by have := (nI_leI (by omega) (by omega)).mp e; omega) ?_)
      unfold xb_La_beginsWith_70
      refine ok_f (fun e => by have := (nI_leI (b := 1) (by omega) (by omega)).mp e; omega) (ok_gd (inb_nI (by omega) (by omega)) (ok_bn (by rw [nI_clamp (n := s) (by omega)]) ?_))
      by_cases c4 : g s = 1
      · refine ok_t c4 (ok_bn (nI_1 s) (ok_gd (inb_nI (by omega) (by omega)) (ok_bn (by rw [nI_clamp (n := s + 1) (by omega)]) (ok_bn (and255 _) ?_))))
        rw [pk_andN (m := 255) (n := h) (by omega) 8 (by decide), Nat.mod_eq_of_lt (show h < 2 ^ 8 from by omega)]
        by_cases c5 : By (g (s + 1)) = h
        · refine ok_t ((nI_eq (by omega) (by omega)).mpr c5) (ok_t rfl ?_)
          unfold xb_La_beginsWith_130
          refine ok_some (tf_1 ⟨by rw [bl_len]; omega, by rw [bl_len]; omega, fun e => by omega, fun _ => ?_⟩)
          rw [g0, g1]
          exact ⟨c4, c5⟩
        · refine ok_f (fun e => c5 ((nI_eq (by omega) (by omega)).mp e)) (ok_some (tf_0 fun e => c5 ?_))
          rw [← g1]
          exact (e.2.2.2 c3).2
      · refine ok_f c4 (ok_some (tf_0 fun e => c4 ?_))
        rw [← g0]
        exact (e.2.2.2 c3).1
    · refine ok_f (fun e => c3 ((nI_ltI (by omega) (by omega)).mp e)) (ok_gd (inb_nI (by omega) (by omega)) (ok_bn (by rw [nI_clamp (n := s) (by omega)]) (ok_bn (and255 _) ?_)))
      rw [nI_add]
      by_cases c4 : By (g s) = 80 + h
      · refine ok_t ((nI_eq (by omega) (by omega)).mpr c4) (ok_some (tf_1 ⟨by rw [bl_len]; omega, by rw [bl_len]; omega, fun _ => ?_, fun e => by omega⟩))
        rw [g0]
        exact c4
      · refine ok_f (fun e => c4 ((nI_eq (by omega) (by omega)).mp e)) (ok_some (tf_0 fun e => c4 ?_))
        rw [← g0]
        exact e.2.2.1 (by omega)
  · refine ok_f (fun e => c2 ((nI_leI (by omega) (by omega)).mp e)) (ok_some (tf_0 fun e => ?_))
    have := e.2.1
    rw [bl_len] at this
    exact c2 this
def sg1 (b : Nat) : Nat := if b = 172 ∨ b = 173 then 1 else if b = 174 ∨ b = 175 then 20 else 0
/-- how many signatures a script asks for -/
def sgs : Nat → List Int32 → Nat
  | 0, _ => 0
  | _ + 1, [] => 0
  | n + 1, o :: r => if By o < 76 then sgs n (r.drop (By o)) else if By o = 76 then sgs n (r.drop (1 + By (r.getD 0 0))) else sg1 (By o) + sgs n r
set_option maxHeartbeats 400000 in
theorem sgs_nil : ∀ n, sgs n [] = 0
  | 0 => rfl
  | _ + 1 => rfl
set_option maxHeartbeats 400000 in
theorem sgs_c (n : Nat) (o : Int32) (r : List Int32) : sgs (n + 1) (o :: r) = if By o < 76 then sgs n (r.drop (By o)) else if By o = 76 then sgs n (r.drop (1 + By (r.getD 0 0))) else sg1 (By o) + sgs n r := rfl
set_option maxHeartbeats 400000 in
theorem sgs_l (n : Nat) (r : List Int32) {o : Int32} (h : By o < 76) : sgs (n + 1) (o :: r) = sgs n (r.drop (By o)) := by rw [sgs_c, if_pos h]
set_option maxHeartbeats 400000 in
theorem sgs_m (n : Nat) (r : List Int32) {o : Int32} (h : By o = 76) : sgs (n + 1) (o :: r) = sgs n (r.drop (1 + By (r.getD 0 0))) := by rw [sgs_c, if_neg (by omega), if_pos h]
set_option maxHeartbeats 400000 in
theorem sgs_h (n : Nat) (r : List Int32) {o : Int32} (h : 76 < By o) : sgs (n + 1) (o :: r) = sg1 (By o) + sgs n r := by rw [sgs_c, if_neg (by omega), if_neg (by omega)]
set_option maxHeartbeats 400000 in
theorem sgs_le : ∀ n L, sgs n L ≤ 20 * L.length
  | 0, _ => Nat.zero_le _
  | _ + 1, [] => Nat.zero_le _
  | n + 1, o :: r => by
    rw [sgs_c, List.length_cons]
    by_cases c1 : By o < 76
    · rw [if_pos c1]
      have := sgs_le n (r.drop (By o))
      rw [List.length_drop] at this
      omega
    rw [if_neg c1]
    by_cases c2 : By o = 76
    · rw [if_pos c2]
      have := sgs_le n (r.drop (1 + By (r.getD 0 0)))
      rw [List.length_drop] at this
      omega
    rw [if_neg c2]
    have := sgs_le n r
    have h1 : sg1 (By o) ≤ 20 := by
      unfold sg1
      split
      · decide
      · split <;> decide
    omega
set_option maxHeartbeats 400000 in
theorem l_sg5 (fu : Nat) (i1 i2 i3 i4 i5 : Int32) (nr : Nat) (hn : nr < 2 ^ 29) (g : Nat → Int32) {e : Nat} (he : e ≤ nr) : ∀ r n a s, e - a ≤ r → r < n → a ≤ nr + 300 → ok (x_La_sigsOf_5 fu i1 i2 i3 i4 i5 nr g n (nI e) (nI s) (nI a)) (fun x => x = nI (s + sgs r (bl g a (e - a)))) := by
  intro r
  induction r with
  | zero =>
    intro n a s h1 h2 h3
    obtain ⟨n, rfl⟩ : ∃ m, n = m + 1 := ⟨n - 1, by omega⟩
    show ok (xb_La_sigsOf_5 fu i1 i2 i3 i4 i5 nr g (x_La_sigsOf_5 fu i1 i2 i3 i4 i5 nr g n) (nI e) (nI s) (nI a)) _
    unfold xb_La_sigsOf_5
    exact ok_t ((nI_leI (by omega) (by omega)).mpr (by omega)) (ok_some rfl)
  | succ r ih =>
    intro n a s h1 h2 h3
    obtain ⟨n, rfl⟩ : ∃ m, n = m + 1 := ⟨n - 1, by omega⟩
    show ok (xb_La_sigsOf_5 fu i1 i2 i3 i4 i5 nr g (x_La_sigsOf_5 fu i1 i2 i3 i4 i5 nr g n) (nI e) (nI s) (nI a)) _
    unfold xb_La_sigsOf_5
    by_cases c0 : e ≤ a
    · refine ok_t ((nI_leI (by omega) (by omega)).mpr c0) (ok_some ?_)
      rw [show e - a = 0 from by omega, bl_0, sgs_nil]
      rfl
    obtain ⟨m, hm⟩ : ∃ m, e - a = m + 1 := ⟨e - a - 1, by omega⟩
    rw [hm, bl_s]
    have hB := By_lt (g a)
    refine ok_f (fun z => c0 ((nI_leI (by omega) (by omega)).mp z)) (ok_gd (inb_nI (by omega) (by omega)) (ok_bn (by rw [nI_clamp (n := a) (by omega)]) (ok_bn (and255 _) (ok_bn (nI_1 a) ?_))))
    rw [show (76 : Int32) = nI 76 from rfl, show (172 : Int32) = nI 172 from rfl, show (173 : Int32) = nI 173 from rfl, show (174 : Int32) = nI 174 from rfl, show (175 : Int32) = nI 175 from rfl]
    by_cases c1 : By (g a) = 76
    · refine ok_t ((nI_eq (by omega) (by omega)).mpr c1) ?_
      by_cases c2 : e ≤ a + 1
      · refine ok_t ((nI_leI (by omega) (by omega)).mpr c2) ?_
        unfold xb_La_sigsOf_59 xb_La_sigsOf_123
        refine ok_bn (nI_1 _) (ok_mono (ih n (a + 1 + 1) s (by omega) (by omega) (by omega)) fun x hx => ?_)
        rw [hx, sgs_m r _ c1, show m = 0 from by omega, bl_0, List.drop_nil, show e - (a + 1 + 1) = 0 from by omega, bl_0]
      · refine ok_f (fun z => c2 ((nI_leI (by omega) (by omega)).mp z)) (ok_gd (inb_nI (by omega) (by omega)) (ok_bn (by rw [nI_clamp (n := a + 1) (by omega)]) ?_))
        unfold xb_La_sigsOf_59 xb_La_sigsOf_123
        have hB1 := By_lt (g (a + 1))
        rw [and255, show (1 : Int32) = nI 1 from rfl, nI_add]
        refine ok_bn (nI_add _ _) (ok_mono (ih n _ s (by omega) (by omega) (by omega)) fun x hx => ?_)
        rw [hx, sgs_m r _ c1, bl_get g 0 m (a + 1) 0 (by omega), bl_drop, show e - (a + 1 + (1 + By (g (a + 1)))) = m - (1 + By (g (a + 1 + 0))) from by rw [Nat.add_zero]; omega]
    refine ok_f (fun z => c1 ((nI_eq (by omega) (by omega)).mp z)) ?_
    by_cases c2 : 76 ≤ By (g a)
    · refine ok_t ((nI_leI (by omega) (by omega)).mpr c2) ?_
      have hS := sgs_h r (bl g (a + 1) m) (o := g a) (by omega)
      by_cases d1 : By (g a) = 172
      · refine ok_t ((nI_eq (by omega) (by omega)).mpr d1) ?_
        unfold xb_La_sigsOf_98 xb_La_sigsOf_123
        refine ok_bn (nI_1 s) (ok_mono (ih n _ (s + 1) (by omega) (by omega) (by omega)) fun x hx => ?_)
        rw [hx, hS, d1, show sg1 172 = 1 from rfl, show e - (a + 1) = m from by omega, Nat.add_assoc]
      refine ok_f (fun z => d1 ((nI_eq (by omega) (by omega)).mp z)) ?_
      by_cases d2 : By (g a) = 173
      · refine ok_t ((nI_eq (by omega) (by omega)).mpr d2) ?_
        unfold xb_La_sigsOf_98 xb_La_sigsOf_123
        refine ok_bn (nI_1 s) (ok_mono (ih n _ (s + 1) (by omega) (by omega) (by omega)) fun x hx => ?_)
        rw [hx, hS, d2, show sg1 173 = 1 from rfl, show e - (a + 1) = m from by omega, Nat.add_assoc]
      refine ok_f (fun z => d2 ((nI_eq (by omega) (by omega)).mp z)) ?_
      by_cases d3 : By (g a) = 174
      · refine ok_t ((nI_eq (by omega) (by omega)).mpr d3) ?_
        unfold xb_La_sigsOf_120 xb_La_sigsOf_123
        refine ok_bn (nI_add s 20) (ok_mono (ih n _ (s + 20) (by omega) (by omega) (by omega)) fun x hx => ?_)
        rw [hx, hS, d3, show sg1 174 = 20 from rfl, show e - (a + 1) = m from by omega, Nat.add_assoc]
      refine ok_f (fun z => d3 ((nI_eq (by omega) (by omega)).mp z)) ?_
      by_cases d4 : By (g a) = 175
      · refine ok_t ((nI_eq (by omega) (by omega)).mpr d4) ?_
        unfold xb_La_sigsOf_120 xb_La_sigsOf_123
        refine ok_bn (nI_add s 20) (ok_mono (ih n _ (s + 20) (by omega) (by omega) (by omega)) fun x hx => ?_)
        rw [hx, hS, d4, show sg1 175 = 20 from rfl, show e - (a + 1) = m from by omega, Nat.add_assoc]
      refine ok_f (fun z => d4 ((nI_eq (by omega) (by omega)).mp z)) ?_
      unfold xb_La_sigsOf_123
      refine ok_mono (ih n _ s (by omega) (by omega) (by omega)) fun x hx => ?_
      rw [hx, hS, show sg1 (By (g a)) = 0 from by unfold sg1; rw [if_neg (by omega), if_neg (by omega)], show e - (a + 1) = m from by omega, Nat.zero_add]
    · refine ok_f (fun z => c2 ((nI_leI (by omega) (by omega)).mp z)) (ok_bn (nI_add _ _) ?_)
      unfold xb_La_sigsOf_123
      refine ok_mono (ih n _ s (by omega) (by omega) (by omega)) fun x hx => ?_
      rw [hx, sgs_l r _ (o := g a) (by omega), bl_drop, show e - (a + 1 + By (g a)) = m - By (g a) from by omega]
def sgK (L : List Int32) : Nat := sgs 3001 L
set_option maxHeartbeats 400000 in
theorem v_La_sigsOf (fu : Nat) (hfu : 4000 ≤ fu) (i1 i2 i3 i4 i5 : Int32) (nr : Nat) (hn : nr < 2 ^ 29) (g : Nat → Int32) {a l : Nat} (he : a + l ≤ nr) (hl : l ≤ 3001) : ok (x_La_sigsOf fu i1 i2 i3 i4 i5 nr g (nI a) (nI (a + l))) (fun x => x = nI (sgK (bl g a l))) := by
  unfold x_La_sigsOf
  refine ok_mono (l_sg5 fu i1 i2 i3 i4 i5 nr hn g he 3001 fu a 0 (by omega) (by omega) (by omega)) fun x hx => ?_
  rw [hx, Nat.zero_add, show a + l - a = l from by omega]
  rfl
