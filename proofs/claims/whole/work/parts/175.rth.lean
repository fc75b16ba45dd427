-- the reference's machine: things
set_option maxHeartbeats 400000 in
theorem bl_cpy {f g : Nat → Int32} {sp dp n : Nat} : bl (va_cpy f g sp dp n) dp n = bl f sp n := bl_c n dp sp fun i hi => by
  rw [pk_cpy_in (by omega) (by omega), show sp + (dp + i - dp) = sp + i from by omega]
set_option maxHeartbeats 400000 in
theorem ftB_c {f g : Nat → Int32} {sp dp n : Nat} (hg : ftB g) (hf : ∀ i, i < n → fits .byte (.int (f (sp + i))) = true) : ftB (va_cpy f g sp dp n) := fun j => by
  by_cases q : dp ≤ j ∧ j < dp + n
  · rw [pk_cpy_in q.1 q.2]
    exact hf _ (by omega)
  · rw [pk_cpy_out (by omega)]
    exact hg j
set_option maxHeartbeats 400000 in
theorem v_move (fu : Nat) (z th sz : Nat → Int32) (hf : ftB th) {a t : Nat} {L : List Int32} (ha : a < 408) (ht : t < 408) (h : sl th sz a L) : ok (x_M_move fu z (nI a) (nI t) th sz) (fun x => wS th sz t L x.1 x.2) := by
  unfold x_M_move
  obtain ⟨h1, h2, h3⟩ := h
  have ia : inb (nI a) 408 = true := inb_nI ha (by decide)
  have it : inb (nI t) 408 = true := inb_nI ht (by decide)
  rw [nI_clamp (n := a) (by omega), nI_clamp (n := t) (by omega), h1]
  refine ok_bn (pk_mul 256 a) (ok_bn (pk_mul 256 t) (ok_gd ia (ok_bnd (ok_gd (cpk_nI (by omega) (by omega) (by decide) (by decide)) (ok_gd (bfit_nI (by omega) (by omega) (fun j _ => hf _)) (ok_bnd (ok_gd ia (ok_bnd (ok_gd it (ok_bnd (ok_some ?_)))))))))))
  rw [nI_clamp (n := 256 * a) (by omega), nI_clamp (n := 256 * t) (by omega), nI_clamp (n := L.length) (by omega)]
  refine ⟨⟨pk_us, h2, ?_⟩, fun j hj => ?_, fun k hk => pk_un hk, ftB_c hf (fun i _ => hf _)⟩
  · rw [bl_cpy, h3]
  · exact pk_cpy_out (by omega)
set_option maxHeartbeats 400000 in
theorem v_push (fu n1 : Nat) (hn1 : n1 < 2 ^ 31) (h1 u0 th sz : Nat → Int32) (hf : ftB th) {a l d : Nat} (hl : l ≤ 255) (ha : a + l ≤ n1) (hd : d < 407) (h9 : u0 9 = nI d) (hfit : ∀ i, i < l → fits .byte (.int (h1 (a + i))) = true) : ok (x_M_push fu n1 h1 (nI a) (nI l) u0 th sz) (fun x => x.1 = upd u0 9 (nI (d + 1)) ∧ wS th sz d (bl h1 a l) x.2.1 x.2.2) := by
  unfold x_M_push
  rw [h9, nI_clamp (n := d) (by omega)]
  refine ok_bn (pk_mul 256 d) (ok_gd (cpk_nI (by omega) (by omega) (by omega) (by decide)) (ok_gd (bfit_nI (by omega) (by omega) hfit) (ok_bnd (ok_gd (inb_nI (by omega) (by decide)) (ok_bnd (ok_bn (nI_1 d) (ok_bnd (ok_some ⟨rfl, ?_⟩))))))))
  rw [nI_clamp (n := 256 * d) (by omega), nI_clamp (n := a) (by omega), nI_clamp (n := l) (by omega)]
  refine ⟨⟨?_, by rw [bl_len]; exact hl, ?_⟩, fun j hj => pk_cpy_out (by omega), fun k hk => pk_un hk, ftB_c hf hfit⟩
  · rw [bl_len]
    exact pk_us
  · rw [bl_len]
    exact bl_cpy
set_option maxHeartbeats 400000 in
theorem pn_wS {u0 u1 u2 : Nat → Int32} {d : Nat} {v : Int} {x : (Nat → Int32) × (Nat → Int32) × (Nat → Int32)} (hf : ftB u1) (h : pnP u0 u1 u2 d (nb v) x) : x.1 = upd u0 9 (nI (d + 1)) ∧ wS u1 u2 d (nb v) x.2.1 x.2.2 := by
  obtain ⟨h1, ⟨h2, h3, h4⟩, h5⟩ := h
  have hl := nb_len v
  refine ⟨h1, ⟨?_, by omega, h2⟩, fun j hj => h3 j (by omega), fun k hk => ?_, h4 hf⟩
  · rw [h5, pk_us]
  · rw [h5, pk_un hk]
set_option maxHeartbeats 400000 in
theorem v_pushN (fu : Nat) (hfu : 10 ≤ fu) {x1 : Int64} {v : Int} (hx : x1.toInt = v) (hv : v.natAbs < 2 ^ 40) {u0 u1 u2 : Nat → Int32} {d : Nat} (hd : d < 407) (h9 : u0 9 = nI d) (hf : ftB u1) : ok (x_M_pushNumber fu x1 u0 u1 u2) (fun x => x.1 = upd u0 9 (nI (d + 1)) ∧ wS u1 u2 d (nb v) x.2.1 x.2.2) := ok_mono (v_M_pushNumber fu hfu hx hv hd h9) fun _ hx => pn_wS hf hx
set_option maxHeartbeats 400000 in
theorem nb_bT (b : Bool) : nb (if b then 1 else 0) = bT b := by cases b <;> decide +kernel
set_option maxHeartbeats 400000 in
theorem v_pushT (fu : Nat) (hfu : 10 ≤ fu) {a1 : Int32} {b : Bool} (hb : tf (b = true) a1) {u0 u1 u2 : Nat → Int32} {d : Nat} (hd : d < 407) (h9 : u0 9 = nI d) (hf : ftB u1) : ok (x_M_pushTruth fu a1 u0 u1 u2) (fun x => x.1 = upd u0 9 (nI (d + 1)) ∧ wS u1 u2 d (bT b) x.2.1 x.2.2) := by
  unfold x_M_pushTruth xb_M_pushTruth_10
  rw [← nb_bT]
  refine ok_tf hb (fun q => ?_) (fun q => ?_)
  · have e : b = false := by cases b; rfl; exact absurd rfl q
    subst e
    exact ok_bd3 (v_pushN fu hfu (x1 := 0) (v := 0) rfl (by decide) hd h9 hf) (fun f1 f2 f3 h => ok_some h)
  · rw [q]
    exact ok_bd3 (v_pushN fu hfu (x1 := 1) (v := 1) rfl (by decide) hd h9 hf) (fun f1 f2 f3 h => ok_some h)
set_option maxHeartbeats 400000 in
theorem truB_z (x : Int32) : truB [x] = true ↔ x ≠ 0 ∧ x ≠ -128 := by
  show (decide (x ≠ 0) && decide (x ≠ -128)) = true ↔ _
  rw [Bool.and_eq_true, decide_eq_true_iff, decide_eq_true_iff]
set_option maxHeartbeats 400000 in
theorem truB_c (x y : Int32) (L : List Int32) : truB (x :: y :: L) = true ↔ x ≠ 0 ∨ truB (y :: L) = true := by
  show (decide (x ≠ 0) || truB (y :: L)) = true ↔ _
  rw [Bool.or_eq_true, decide_eq_true_iff]
set_option maxHeartbeats 400000 in
theorem l_tr (fu : Nat) (z th sz : Nat → Int32) {k l : Nat} (hk : k < 408) (hl : l ≤ 255) (h1 : sz k = nI l) : ∀ r i n, i + r = l → r < n → ok (x_M_isTrue1_2 fu z th sz n (nI k) (nI i)) (tf (truB (bl th (256 * k + i) r) = true)) := by
  have ik : inb (nI k) 408 = true := inb_nI hk (by decide)
  intro r
  induction r with
  | zero =>
    intro i n hi hn
    obtain ⟨n, rfl⟩ : ∃ m, n = m + 1 := ⟨n - 1, by omega⟩
    show ok (xb_M_isTrue1_2 fu z th sz (x_M_isTrue1_2 fu z th sz n) (nI k) (nI i)) _
    unfold xb_M_isTrue1_2
    rw [nI_clamp (n := k) (by omega), h1]
    exact ok_gd ik (ok_bnd (ok_t ((nI_leI (by omega) (by omega)).mpr (by omega)) (ok_some (tf_0 (by rw [bl_0]; decide)))))
  | succ r ih =>
    intro i n hi hn
    obtain ⟨n, rfl⟩ : ∃ m, n = m + 1 := ⟨n - 1, by omega⟩
    show ok (xb_M_isTrue1_2 fu z th sz (x_M_isTrue1_2 fu z th sz n) (nI k) (nI i)) _
    unfold xb_M_isTrue1_2 xb_M_isTrue1_58
    have el : nI l - (1 : Int32) = nI (l - 1) := by
      have := nI_add (l - 1) 1
      rw [show l - 1 + 1 = l from by omega] at this
      rw [← this]
      exact Int32.add_sub_cancel _ _
    have i2 : inb (nI (256 * k + i)) 104448 = true := inb_nI (by omega) (by decide)
    have IH := ih (i + 1) n (by omega) (by omega)
    rw [nI_clamp (n := k) (by omega), h1, nI_1 i]
    refine ok_gd ik (ok_bnd (ok_f (fun e => by have := (nI_leI (by omega) (by omega)).mp e; omega) (ok_bn (pk_mul 256 k) (ok_bn (nI_add _ _) (ok_gd i2 (ok_bn (by rw [nI_clamp (n := 256 * k + i) (by omega)]) ?_))))))
    by_cases q : th (256 * k + i) = 0
    · refine ok_t q (ok_bnd (ok_mono IH fun x hx => tf_c ?_ hx))
      rw [bl_s, q, show 256 * k + (i + 1) = 256 * k + i + 1 from by omega]
      cases r with
      | zero =>
        rw [bl_0]
        exact ⟨fun e => absurd e (by decide), fun e => absurd e (by decide)⟩
      | succ r =>
        rw [bl_s, truB_c]
        exact ⟨fun e => Or.inr e, fun e => e.resolve_left fun w => w rfl⟩
    · refine ok_f q (ok_gd ik (ok_bnd ?_))
      rw [el]
      by_cases q2 : i = l - 1
      · refine ok_t (by rw [q2]) (ok_bn (pk_mul 256 k) (ok_bn (nI_add _ _) (ok_gd i2 (ok_bn (by rw [nI_clamp (n := 256 * k + i) (by omega)]) ?_))))
        have er : r = 0 := by omega
        subst er
        rw [bl_s, bl_0]
        by_cases q3 : th (256 * k + i) = -128
        · refine ok_t q3 (ok_bnd (ok_mono IH fun x hx => tf_c ?_ hx))
          rw [bl_0, q3]
          exact ⟨fun e => absurd e (by decide), fun e => absurd e (by decide)⟩
        · exact ok_f q3 (ok_some (tf_1 ((truB_z _).mpr ⟨q, q3⟩)))
      · refine ok_f (fun e => q2 ((nI_eq (by omega) (by omega)).mp e)) (ok_some (tf_1 ?_))
        obtain ⟨r', er⟩ : ∃ r', r = r' + 1 := ⟨r - 1, by omega⟩
        subst er
        rw [bl_s, bl_s, truB_c]
        exact Or.inl q
set_option maxHeartbeats 400000 in
theorem v_isTrue1 (fu : Nat) (hfu : 300 ≤ fu) (z th sz : Nat → Int32) {k : Nat} {L : List Int32} (hk : k < 408) (h : sl th sz k L) : ok (x_M_isTrue1 fu z th sz (nI k)) (tf (truB L = true)) := by
  unfold x_M_isTrue1
  obtain ⟨h1, h2, h3⟩ := h
  have := l_tr fu z th sz hk h2 h1 L.length 0 fu (by omega) (by omega)
  rw [Nat.add_zero, h3] at this
  exact this
set_option maxHeartbeats 400000 in
theorem l_sm (fu : Nat) (z th sz : Nat → Int32) {a b l : Nat} (ha : a < 408) (hb : b < 408) (hl : l ≤ 255) (h1 : sz a = nI l) : ∀ r i n, i + r = l → r < n → ok (x_M_isSame_19 fu z th sz n (nI a) (nI b) (nI i)) (tf (bl th (256 * a + i) r = bl th (256 * b + i) r)) := by
  have ia : inb (nI a) 408 = true := inb_nI ha (by decide)
  intro r
  induction r with
  | zero =>
    intro i n hi hn
    obtain ⟨n, rfl⟩ : ∃ m, n = m + 1 := ⟨n - 1, by omega⟩
    show ok (xb_M_isSame_19 fu z th sz (x_M_isSame_19 fu z th sz n) (nI a) (nI b) (nI i)) _
    unfold xb_M_isSame_19
    rw [nI_clamp (n := a) (by omega), h1]
    exact ok_gd ia (ok_bnd (ok_t ((nI_leI (by omega) (by omega)).mpr (by omega)) (ok_some (tf_1 rfl))))
  | succ r ih =>
    intro i n hi hn
    obtain ⟨n, rfl⟩ : ∃ m, n = m + 1 := ⟨n - 1, by omega⟩
    show ok (xb_M_isSame_19 fu z th sz (x_M_isSame_19 fu z th sz n) (nI a) (nI b) (nI i)) _
    unfold xb_M_isSame_19
    rw [nI_clamp (n := a) (by omega), h1]
    refine ok_gd ia (ok_bnd (ok_f (fun e => by have := (nI_leI (by omega) (by omega)).mp e; omega) (ok_bn (pk_mul 256 a) (ok_bn (nI_add _ _) (ok_gd (inb_nI (by omega) (by decide)) (ok_bn (by rw [nI_clamp (n := 256 * a + i) (by omega)]) (ok_bn (pk_mul 256 b) (ok_bn (nI_add _ _) (ok_gd (inb_nI (by omega) (by decide)) (ok_bn (by rw [nI_clamp (n := 256 * b + i) (by omega)]) ?_))))))))))
    by_cases q : th (256 * a + i) = th (256 * b + i)
    · refine ok_t q (ok_bn (nI_1 i) (ok_mono (ih (i + 1) n (by omega) (by omega)) fun x hx => tf_c ?_ hx))
      rw [bl_s, bl_s, q, show 256 * a + (i + 1) = 256 * a + i + 1 from by omega, show 256 * b + (i + 1) = 256 * b + i + 1 from by omega]
      exact ⟨fun e => by rw [e], fun e => (List.cons.inj e).2⟩
    · refine ok_f q (ok_some (tf_0 fun e => q ?_))
      rw [bl_s, bl_s] at e
      exact (List.cons.inj e).1
set_option maxHeartbeats 400000 in
theorem v_isSame (fu : Nat) (hfu : 300 ≤ fu) (z th sz : Nat → Int32) {a b : Nat} {L L' : List Int32} (ha : a < 408) (hb : b < 408) (h : sl th sz a L) (h' : sl th sz b L') : ok (x_M_isSame fu z th sz (nI a) (nI b)) (tf (L = L')) := by
  unfold x_M_isSame
  obtain ⟨h1, h2, h3⟩ := h
  obtain ⟨h4, h5, h6⟩ := h'
  rw [nI_clamp (n := a) (by omega), nI_clamp (n := b) (by omega), h1, h4]
  refine ok_gd (inb_nI ha (by decide)) (ok_bnd (ok_gd (inb_nI hb (by decide)) (ok_bnd ?_)))
  by_cases q : L.length = L'.length
  · refine ok_t (by rw [q]) ?_
    have := l_sm fu z th sz ha hb h2 h1 L.length 0 fu (by omega) (by omega)
    rw [Nat.add_zero, Nat.add_zero, h3] at this
    refine ok_mono this fun x hx => tf_c ?_ hx
    rw [q, h6]
  · exact ok_f (fun e => q ((nI_eq (by omega) (by omega)).mp e)) (ok_some (tf_0 fun e => q (by rw [e])))
set_option maxHeartbeats 400000 in
theorem v_isNumber (fu : Nat) (z th sz : Nat → Int32) {a : Nat} {L : List Int32} (ha : a < 408) (h : sl th sz a L) : ok (x_M_isNumber fu z sz (nI a)) (tf (isNu L = true)) := by
  unfold x_M_isNumber
  obtain ⟨h1, h2, h3⟩ := h
  rw [nI_clamp (n := a) (by omega), h1, show (4 : Int32) = nI 4 from rfl]
  refine ok_gd (inb_nI ha (by decide)) (ok_bnd ?_)
  unfold isNu
  by_cases q : 4 < L.length
  · exact ok_t ((nI_ltI (by omega) (by omega)).mpr q) (ok_some (tf_0 fun e => by have := of_decide_eq_true e; omega))
  · exact ok_f (fun e => q ((nI_ltI (by omega) (by omega)).mp e)) (ok_some (tf_1 (decide_eq_true (by omega))))
set_option maxHeartbeats 400000 in
theorem v_has (fu : Nat) (z : Nat → Int32) {d n : Nat} (hd : d < 2 ^ 31) (hn : n < 2 ^ 31) (h9 : z 9 = nI d) : ok (x_M_has fu z (nI n)) (tf (n ≤ d)) := by
  unfold x_M_has
  rw [h9]
  by_cases q : d < n
  · exact ok_t ((nI_ltI hd hn).mpr q) (ok_some (tf_0 (by omega)))
  · exact ok_f (fun e => q ((nI_ltI hd hn).mp e)) (ok_some (tf_1 (by omega)))
