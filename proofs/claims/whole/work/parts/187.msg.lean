-- what a signature signs, in the reference
/-- COUNT's bytes -/
def cbL (n : Nat) : List Int32 := if 253 ≤ n then [-3, (nI n).toInt8.toInt32, (nI n >>> ((8 : Int32) &&& 31)).toInt8.toInt32] else [(nI n).toInt8.toInt32]
def mIn (p : Nat → Int32) (sc : List Int32) (k : Nat) : List In3 → Nat → List Int32
  | [], _ => []
  | i :: I, j => bl p i.1 36 ++ ((if j = k then cbL sc.length ++ sc else [0]) ++ (bl p (i.2.1 + i.2.2) 4 ++ mIn p sc k I (j + 1)))
/-- the text that is signed: transaction, the input's place, the script it spends -/
def msG (p : Nat → Int32) (sc : List Int32) (k : Nat) (T : Tx5) : List Int32 := bl p T.1 4 ++ (cbL T.2.1.length ++ (mIn p sc k T.2.1 0 ++ (bl p T.2.2.1 (T.2.2.2.2 - T.2.2.1) ++ [1, 0, 0, 0])))
/-- an array begins with this text -/
def mF (u : Nat → Int32) (L : List Int32) : Prop := bl u 0 L.length = L ∧ ∀ j, j < L.length → fits .byte (.int (u j)) = true
set_option maxHeartbeats 1000000 in
theorem bl_app (p : Nat → Int32) (m : Nat) : ∀ n a, bl p a (n + m) = bl p a n ++ bl p (a + n) m
  | 0, a => by rw [Nat.zero_add]; rfl
  | n + 1, a => by
    rw [Nat.add_right_comm, bl_s, bl_s, bl_app p m n (a + 1), List.cons_append, show a + 1 + n = a + (n + 1) from by omega]
set_option maxHeartbeats 1000000 in
theorem mF_0 (u : Nat → Int32) : mF u [] := ⟨rfl, fun j h => absurd h (Nat.not_lt_zero j)⟩
set_option maxHeartbeats 1000000 in
theorem mF_u {u : Nat → Int32} {L : List Int32} (h : mF u L) {x : Int32} (hx : fits .byte (.int x) = true) {n : Nat} (hn : n = L.length) : mF (upd u n x) (L ++ [x]) := by
  subst hn
  refine ⟨?_, fun j hj => ?_⟩
  · rw [List.length_append, show [x].length = 1 from rfl]
    have := bl_ua u 0 L.length x
    rw [Nat.zero_add] at this
    rw [this, h.1]
  · rw [List.length_append] at hj
    replace hj : j < L.length + 1 := hj
    by_cases c : j = L.length
    · rw [c, pk_us]; exact hx
    · rw [pk_un c]; exact h.2 j (by omega)
set_option maxHeartbeats 1000000 in
theorem mF_c {u f : Nat → Int32} {L : List Int32} (h : mF u L) {s m n : Nat} (hn : n = L.length) (hf : ∀ i, i < m → fits .byte (.int (f (s + i))) = true) : mF (va_cpy f u s n m) (L ++ bl f s m) := by
  subst hn
  refine ⟨?_, fun j hj => ?_⟩
  · rw [List.length_append, bl_len, bl_app, Nat.zero_add, bl_cpy]
    congr 1
    refine Eq.trans (bl_c _ _ _ fun i hi => ?_) h.1
    rw [Nat.zero_add, pk_cpy_out (Or.inl hi)]
  · rw [List.length_append, bl_len] at hj
    by_cases c : j < L.length
    · rw [pk_cpy_out (Or.inl c)]; exact h.2 j c
    · rw [pk_cpy_in (by omega) (by omega)]
      exact hf _ (by omega)
set_option maxHeartbeats 1000000 in
theorem cbL_le (n : Nat) : (cbL n).length ≤ 3 ∧ 1 ≤ (cbL n).length := by
  unfold cbL
  split
  · exact ⟨show 3 ≤ 3 by decide, show 1 ≤ 3 by decide⟩
  · exact ⟨show 1 ≤ 3 by decide, show 1 ≤ 1 by decide⟩
set_option maxHeartbeats 1000000 in
theorem v_M_count1 (fu : Nat) (z u : Nat → Int32) {L : List Int32} (h : mF u L) (hl : L.length ≤ 99000) {n : Nat} (hn : n < 65536) : ok (x_M_count1 fu z (nI L.length) (nI n) u) (fun x => x.1 = nI (L ++ cbL n).length ∧ mF x.2 (L ++ cbL n)) := by
  unfold x_M_count1
  by_cases c : 253 ≤ n
  · refine ok_t ((nI_leI (a := 253) (by omega) (by omega)).mpr c) ?_
    have e : cbL n = [-3, (nI n).toInt8.toInt32, (nI n >>> ((8 : Int32) &&& 31)).toInt8.toInt32] := if_pos c
    rw [e, nI_clamp (n := L.length) (by omega), show vp_nar .byte (-3 : Int32) = (-3 : Int32) from by decide]
    refine ok_bn (nI_1 _) (ok_gd (inb_nI (by omega) (by omega)) (ok_bnd (ok_bn (nI_1 _) (ok_bnd ?_))))
    rw [nI_clamp (n := L.length + 1) (by omega), pk_vb]
    refine ok_gd (inb_nI (by omega) (by omega)) (ok_bnd (ok_bn (nI_1 _) (ok_bnd ?_)))
    rw [nI_clamp (n := L.length + 1 + 1) (by omega), pk_vb]
    refine ok_gd (inb_nI (by omega) (by omega)) (ok_bnd (ok_some ?_))
    have m1 := mF_u h (x := (-3 : Int32)) (by decide) rfl
    have m2 := mF_u m1 (x := (nI n).toInt8.toInt32) (pk_fb _) (n := L.length + 1) (by rw [List.length_append]; rfl)
    have m3 := mF_u m2 (x := (nI n >>> ((8 : Int32) &&& 31)).toInt8.toInt32) (pk_fb _) (n := L.length + 1 + 1) (by rw [List.length_append, List.length_append]; rfl)
    refine ⟨by rw [List.length_append]; rfl, ?_⟩
    rw [List.append_assoc, List.append_assoc] at m3
    exact m3
  · refine ok_f (fun e => c ((nI_leI (a := 253) (by omega) (by omega)).mp e)) ?_
    have e : cbL n = [(nI n).toInt8.toInt32] := if_neg c
    rw [e, nI_clamp (n := L.length) (by omega)]
    refine ok_bn (nI_1 _) (ok_bnd ?_)
    rw [pk_vb]
    refine ok_gd (inb_nI (by omega) (by omega)) (ok_bnd (ok_some ?_))
    exact ⟨by rw [List.length_append]; rfl, mF_u h (pk_fb _) rfl⟩
/-- the reference's arrays hold this transaction -/
def mgE (st e1 e2 e3 e4 e5 e6 e8 : Nat → Int32) (T : Tx5) (t i0 : Nat) : Prop := (t < 2200 ∧ i0 + T.2.1.length ≤ 2600 ∧ T.2.1.length ≤ 200 ∧ T.1 + 4 ≤ T.2.2.1 ∧ T.2.2.1 ≤ T.2.2.2.2 ∧ T.2.2.2.2 ≤ 103000 ∧ T.2.2.2.2 ≤ T.2.2.1 + 10000) ∧ (e1 t = nI T.1 ∧ e2 t = nI (T.2.2.2.2 - T.1) ∧ e3 t = nI i0 ∧ e4 t = nI T.2.1.length ∧ e8 t = nI T.2.2.1) ∧ (∀ j, j < T.2.1.length → e5 (i0 + j) = nI (T.2.1.getD j d3).1 ∧ e6 (i0 + j) = nI (leP st ((T.2.1.getD j d3).2.1 + (T.2.1.getD j d3).2.2) 4) ∧ (T.2.1.getD j d3).1 + 36 ≤ 103000) ∧ ftB st
set_option maxHeartbeats 1000000 in
theorem mIn_le (p : Nat → Int32) (sc : List Int32) (k : Nat) : ∀ I j, (mIn p sc k I j).length ≤ 41 * I.length + (if j ≤ k then 3 + sc.length else 0)
  | [], _ => Nat.zero_le _
  | i :: I, j => by
    have h := mIn_le p sc k I (j + 1)
    have h' := cbL_le sc.length
    show (bl p i.1 36 ++ ((if j = k then cbL sc.length ++ sc else [0]) ++ (bl p (i.2.1 + i.2.2) 4 ++ mIn p sc k I (j + 1)))).length ≤ 41 * (I.length + 1) + _
    rw [List.length_append, List.length_append, List.length_append, bl_len, bl_len]
    by_cases c : j = k
    · rw [if_pos c, if_pos (by omega), List.length_append]
      rw [if_neg (by omega)] at h
      omega
    · rw [if_neg c, show [(0 : Int32)].length = 1 from rfl]
      by_cases d : j ≤ k
      · rw [if_pos d]
        rw [if_pos (by omega)] at h
        omega
      · rw [if_neg d]
        rw [if_neg (by omega)] at h
        omega
set_option maxHeartbeats 1000000 in
theorem l_ms233 (fu : Nat) (z st e1 e2 e3 e4 e5 e6 e8 : Nat → Int32) : ∀ r q n L u, q + r = 4 → r < n → mF u L → L.length + r ≤ 99000 → ok (x_M_message_233 fu z st e1 e2 e3 e4 e5 e6 e8 n (nI L.length) (nI q) u) (fun x => x.1 = nI (L ++ [1, 0, 0, 0].drop q).length ∧ mF x.2 (L ++ [1, 0, 0, 0].drop q))
  | 0, q, n, L, u, hq, hn, h, hl => by
    obtain ⟨n, rfl⟩ : ∃ m, n = m + 1 := ⟨n - 1, by omega⟩
    have e : q = 4 := by omega
    subst e
    show ok (xb_M_message_233 fu z st e1 e2 e3 e4 e5 e6 e8 (x_M_message_233 fu z st e1 e2 e3 e4 e5 e6 e8 n) (nI L.length) (nI 4) u) _
    unfold xb_M_message_233
    refine ok_t (by decide) (ok_some ?_)
    show nI L.length = nI (L ++ []).length ∧ mF u (L ++ [])
    rw [List.append_nil]
    exact ⟨rfl, h⟩
  | r + 1, q, n, L, u, hq, hn, h, hl => by
    obtain ⟨n, rfl⟩ : ∃ m, n = m + 1 := ⟨n - 1, by omega⟩
    show ok (xb_M_message_233 fu z st e1 e2 e3 e4 e5 e6 e8 (x_M_message_233 fu z st e1 e2 e3 e4 e5 e6 e8 n) (nI L.length) (nI q) u) _
    unfold xb_M_message_233 xb_M_message_257
    refine ok_f (fun e => by have := (nI_leI (a := 4) (b := q) (by omega) (by omega)).mp e; omega) (ok_bn (nI_1 _) ?_)
    rw [nI_clamp (n := L.length) (by omega)]
    by_cases c : q = 0
    · subst c
      refine ok_t rfl (ok_bnd (ok_gd (inb_nI (by omega) (by omega)) (ok_bnd (ok_bn (nI_1 _) ?_))))
      have := l_ms233 fu z st e1 e2 e3 e4 e5 e6 e8 r 1 n (L ++ [1]) (upd u L.length 1) (by omega) (by omega) (mF_u h (by decide) rfl) (by rw [List.length_append]; show L.length + 1 + r ≤ _; omega)
      rw [List.length_append, List.append_assoc] at this
      exact this
    · refine ok_f (fun e => c ((nI_eq (b := 0) (by omega) (by omega)).mp e)) (ok_bnd (ok_gd (inb_nI (by omega) (by omega)) (ok_bnd (ok_bn (nI_1 _) ?_))))
      have := l_ms233 fu z st e1 e2 e3 e4 e5 e6 e8 r (q + 1) n (L ++ [0]) (upd u L.length 0) (by omega) (by omega) (mF_u h (by decide) rfl) (by rw [List.length_append]; show L.length + 1 + r ≤ _; omega)
      rw [List.length_append, List.append_assoc] at this
      have e : [1, 0, 0, 0].drop q = (0 : Int32) :: [1, 0, 0, 0].drop (q + 1) := by
        have cs : q = 1 ∨ q = 2 ∨ q = 3 := by omega
        rcases cs with rfl | rfl | rfl <;> rfl
      rw [e]
      exact this
set_option maxHeartbeats 1000000 in
theorem l_ms146 (fu : Nat) (z st e1 e2 e3 e4 e5 e6 e8 : Nat → Int32) (hst : ftB st) (K : Int32 → Int32 → Int32 → (Nat → Int32) → Option (Int32 × (Nat → Int32))) {x1 : Int32} {i s : Nat} (hi : i < 2600) (h6 : e6 i = nI (leP st s 4)) (Q : Int32 × (Nat → Int32) → Prop) : ∀ r q n L u, q + r = 4 → r < n → mF u L → L.length + r ≤ 99000 → (∀ u', mF u' (L ++ bl st (s + q) r) → ok (K x1 (nI (L.length + r)) (nI (i + 1)) u') Q) → ok (x_M_message_146 fu z st e1 e2 e3 e4 e5 e6 e8 K n x1 (nI L.length) (nI i) (nI q) u) Q
  | 0, q, n, L, u, hq, hn, h, hl, hK => by
    obtain ⟨n, rfl⟩ : ∃ m, n = m + 1 := ⟨n - 1, by omega⟩
    have e : q = 4 := by omega
    subst e
    show ok (xb_M_message_146 fu z st e1 e2 e3 e4 e5 e6 e8 K (x_M_message_146 fu z st e1 e2 e3 e4 e5 e6 e8 K n) x1 (nI L.length) (nI i) (nI 4) u) _
    unfold xb_M_message_146
    refine ok_t (by decide) (ok_bn (nI_1 _) ?_)
    exact hK u (by rw [bl_0, List.append_nil]; exact h)
  | r + 1, q, n, L, u, hq, hn, h, hl, hK => by
    obtain ⟨n, rfl⟩ : ∃ m, n = m + 1 := ⟨n - 1, by omega⟩
    show ok (xb_M_message_146 fu z st e1 e2 e3 e4 e5 e6 e8 K (x_M_message_146 fu z st e1 e2 e3 e4 e5 e6 e8 K n) x1 (nI L.length) (nI i) (nI q) u) _
    unfold xb_M_message_146
    refine ok_f (fun e => by have := (nI_leI (a := 4) (b := q) (by omega) (by omega)).mp e; omega) (ok_bn (nI_1 _) (ok_gd (inb_nI hi (by omega)) ?_))
    rw [nI_clamp (n := L.length) (by omega), nI_clamp (n := i) (by omega), h6]
    refine ok_bnd (ok_bn (e' := st (s + q)) (w_by (by omega) (hst _)) (ok_gd (inb_nI (by omega) (by omega)) ?_))
    have ev : vp_nar .byte (st (s + q)) = st (s + q) := by
      rw [← w_by (p := st) (a := s) (r := q) (by omega) (hst _)]
      exact pk_vb _
    rw [ev]
    refine ok_bnd (ok_bn (nI_1 _) ?_)
    have := l_ms146 fu z st e1 e2 e3 e4 e5 e6 e8 hst K (x1 := x1) hi h6 Q r (q + 1) n (L ++ [st (s + q)]) (upd u L.length (st (s + q))) (by omega) (by omega) (mF_u h (hst _) rfl) (by rw [List.length_append]; show L.length + 1 + r ≤ _; omega) (fun u' hu => ?_)
    · rw [List.length_append] at this
      exact this
    · rw [List.append_assoc] at hu
      rw [List.length_append, show [st (s + q)].length = 1 from rfl, show L.length + 1 + r = L.length + (r + 1) from by omega]
      exact hK u' hu
set_option maxHeartbeats 1000000 in
theorem l_ms45 (fu : Nat) (hfu : 300 ≤ fu) (z st e1 e2 e3 e4 e5 e6 e8 : Nat → Int32) {T : Tx5} {t i0 k sA sL : Nat} (hE : mgE st e1 e2 e3 e4 e5 e6 e8 T t i0) (h12 : z 12 = nI (i0 + k)) (h14 : z 14 = nI sA) (h15 : z 15 = nI sL) (hs : sA + sL ≤ 103000) (hsL : sL ≤ 1000) (hk : k < 2600) : ∀ I j n L u, T.2.1 = T.2.1.take j ++ I → j + I.length = T.2.1.length → I.length < n → mF u L → L.length + 41 * I.length + (if j ≤ k then 3 + sL else 0) ≤ 50000 → ok (x_M_message_45 fu z st e1 e2 e3 e4 e5 e6 e8 n (nI t) (nI L.length) (nI (i0 + j)) u) (fun x => x.1 = nI (L ++ (mIn st (bl st sA sL) k I j ++ (bl st T.2.2.1 (T.2.2.2.2 - T.2.2.1) ++ [1, 0, 0, 0]))).length ∧ mF x.2 (L ++ (mIn st (bl st sA sL) k I j ++ (bl st T.2.2.1 (T.2.2.2.2 - T.2.2.1) ++ [1, 0, 0, 0]))))
  | [], j, n, L, u, hI, hj, hn, h, hl => by
    obtain ⟨n, rfl⟩ : ∃ m, n = m + 1 := ⟨n - 1, by omega⟩
    obtain ⟨⟨b1, b2, b3, b4, b5, b6, b7⟩, ⟨a1, a2, a3, a4, a5⟩, hin, hst⟩ := hE
    replace hj : j + 0 = T.2.1.length := hj
    replace hl : L.length + 41 * 0 + (if j ≤ k then 3 + sL else 0) ≤ 50000 := hl
    show ok (xb_M_message_45 fu z st e1 e2 e3 e4 e5 e6 e8 (x_M_message_45 fu z st e1 e2 e3 e4 e5 e6 e8 n) (nI t) (nI L.length) (nI (i0 + j)) u) _
    unfold xb_M_message_45
    refine ok_gd (inb_nI b1 (by omega)) ?_
    rw [nI_clamp (n := t) (by omega), a3, a4, a5, a1, a2]
    refine ok_bnd (ok_gd (inb_nI b1 (by omega)) (ok_bnd ?_))
    rw [nI_add]
    refine ok_t ((nI_leI (by omega) (by omega)).mpr (by omega)) (ok_gd (inb_nI b1 (by omega)) (ok_bnd (ok_gd (inb_nI b1 (by omega)) (ok_bnd (ok_gd (inb_nI b1 (by omega)) (ok_bnd (ok_bn (e' := nI T.2.2.2.2) ?_ (ok_bn (e' := nI (T.2.2.2.2 - T.2.2.1)) (nI_sb b5) (ok_gd (cpk_nI (by omega) (by omega) (by omega) (by omega)) (ok_gd (bfit_nI (by omega) (by omega) (fun i _ => hst _)) ?_))))))))))
    · rw [nI_add]; congr 1; omega
    rw [nI_clamp (n := T.2.2.1) (by omega), nI_clamp (n := L.length) (by omega), nI_clamp (n := T.2.2.2.2 - T.2.2.1) (by omega)]
    refine ok_bnd (ok_bn (nI_add _ _) ?_)
    have m := mF_c (s := T.2.2.1) (m := T.2.2.2.2 - T.2.2.1) h rfl (fun i _ => hst _)
    have := l_ms233 fu z st e1 e2 e3 e4 e5 e6 e8 4 0 fu _ _ rfl (by omega) m (by rw [List.length_append, bl_len]; omega)
    rw [List.length_append, bl_len, List.append_assoc] at this
    exact this
  | i :: I, j, n, L, u, hI, hj, hn, h, hl => by
    obtain ⟨n, rfl⟩ : ∃ m, n = m + 1 := ⟨n - 1, by omega⟩
    have hE' := hE
    obtain ⟨⟨b1, b2, b3, b4, b5, b6, b7⟩, ⟨a1, a2, a3, a4, a5⟩, hin, hst⟩ := hE
    replace hj : j + (I.length + 1) = T.2.1.length := hj
    replace hn : I.length + 1 < n + 1 := hn
    replace hl : L.length + 41 * (I.length + 1) + (if j ≤ k then 3 + sL else 0) ≤ 50000 := hl
    have hlt : (T.2.1.take j).length = j := by rw [List.length_take]; omega
    have hg : T.2.1.getD j d3 = i := by
      show (T.2.1[j]?).getD d3 = i
      rw [hI, List.getElem?_append_right (by omega), hlt, Nat.sub_self]
      rfl
    have hI' : T.2.1 = T.2.1.take (j + 1) ++ I := by
      have q : T.2.1.take (j + 1) = T.2.1.take j ++ [i] := by
        have := List.take_append_drop j T.2.1
        rw [List.take_add_one, ← hg]
        congr 1
        rw [List.getElem?_eq_getElem (by omega), ← gD_e T.2.1 d3 (by omega)]
        rfl
      rw [q, List.append_assoc]
      exact hI
    obtain ⟨c1, c2, c3⟩ := hin j (by omega)
    rw [hg] at c1 c2 c3
    have ih := l_ms45 fu hfu z st e1 e2 e3 e4 e5 e6 e8 hE' h12 h14 h15 hs hsL hk I (j + 1) n
    show ok (xb_M_message_45 fu z st e1 e2 e3 e4 e5 e6 e8 (x_M_message_45 fu z st e1 e2 e3 e4 e5 e6 e8 n) (nI t) (nI L.length) (nI (i0 + j)) u) _
    unfold xb_M_message_45
    refine ok_gd (inb_nI b1 (by omega)) ?_
    rw [nI_clamp (n := t) (by omega), a3, a4]
    refine ok_bnd (ok_gd (inb_nI b1 (by omega)) (ok_bnd ?_))
    rw [nI_add]
    refine ok_f (fun e => by have := (nI_leI (by omega) (by omega)).mp e; omega) (ok_gd (inb_nI (by omega) (by omega)) ?_)
    rw [nI_clamp (n := i0 + j) (by omega), c1]
    refine ok_bnd (ok_gd (cpk_nI (n := 36) (by omega) (by omega) (by omega) (by omega)) (ok_gd (bfit_nI (n := 36) (by omega) (by omega) (fun i _ => hst _)) ?_))
    rw [nI_clamp (n := i.1) (by omega), nI_clamp (n := L.length) (by omega), show (36 : Int32).toNatClampNeg = 36 from rfl]
    have m1 := mF_c (s := i.1) (m := 36) h rfl (fun i _ => hst _)
    have l1 : (L ++ bl st i.1 36).length = L.length + 36 := by rw [List.length_append, bl_len]
    refine ok_bnd (ok_bn (nI_add L.length 36) ?_)
    rw [h12]
    unfold xb_M_message_143
    have G : ∀ M u', mF u' (L ++ bl st i.1 36 ++ M) → (if j = k then cbL (bl st sA sL).length ++ bl st sA sL else [0]) = M → (L ++ bl st i.1 36 ++ M).length + 4 ≤ 60000 → (L ++ bl st i.1 36 ++ M).length + 4 + 41 * I.length + (if j + 1 ≤ k then 3 + sL else 0) ≤ 50000 → ok (x_M_message_146 fu z st e1 e2 e3 e4 e5 e6 e8 (x_M_message_45 fu z st e1 e2 e3 e4 e5 e6 e8 n) fu (nI t) (nI (L ++ bl st i.1 36 ++ M).length) (nI (i0 + j)) (0 : Int32) u') (fun x => x.1 = nI (L ++ (mIn st (bl st sA sL) k (i :: I) j ++ (bl st T.2.2.1 (T.2.2.2.2 - T.2.2.1) ++ [1, 0, 0, 0]))).length ∧ mF x.2 (L ++ (mIn st (bl st sA sL) k (i :: I) j ++ (bl st T.2.2.1 (T.2.2.2.2 - T.2.2.1) ++ [1, 0, 0, 0])))) := fun M u' hu hM hl1 hl2 => by
      refine l_ms146 fu z st e1 e2 e3 e4 e5 e6 e8 hst (x_M_message_45 fu z st e1 e2 e3 e4 e5 e6 e8 n) (x1 := nI t) (by omega) c2 _ 4 0 fu _ u' rfl (by omega) hu (by omega) (fun u'' hu'' => ?_)
      have := ih (L ++ bl st i.1 36 ++ M ++ bl st (i.2.1 + i.2.2 + 0) 4) u'' hI' (by omega) (by omega) hu'' (by rw [List.length_append, bl_len]; exact hl2)
      rw [show L ++ (mIn st (bl st sA sL) k (i :: I) j ++ (bl st T.2.2.1 (T.2.2.2.2 - T.2.2.1) ++ [1, 0, 0, 0])) = L ++ bl st i.1 36 ++ M ++ bl st (i.2.1 + i.2.2 + 0) 4 ++ (mIn st (bl st sA sL) k I (j + 1) ++ (bl st T.2.2.1 (T.2.2.2.2 - T.2.2.1) ++ [1, 0, 0, 0])) from by
        show L ++ ((bl st i.1 36 ++ ((if j = k then cbL (bl st sA sL).length ++ bl st sA sL else [0]) ++ (bl st (i.2.1 + i.2.2) 4 ++ mIn st (bl st sA sL) k I (j + 1)))) ++ _) = _
        rw [hM]
        simp only [List.append_assoc, Nat.add_zero]]
      rw [List.length_append (bs := bl st (i.2.1 + i.2.2 + 0) 4), bl_len] at this
      exact this
    by_cases c : j = k
    · have e15 := h15
      refine ok_t (by rw [c]) ?_
      rw [h15, h14]
      have v := v_M_count1 fu z (va_cpy st u i.1 L.length 36) (L := L ++ bl st i.1 36) m1 (by omega) (n := sL) (by omega)
      rw [l1] at v
      refine ok_bd2 v (fun x f w => ?_)
      obtain ⟨w1, w2⟩ := w
      replace w1 : x = nI (L ++ bl st i.1 36 ++ cbL sL).length := w1
      replace w2 : mF f (L ++ bl st i.1 36 ++ cbL sL) := w2
      subst w1
      have cl := cbL_le sL
      have l2 : (L ++ bl st i.1 36 ++ cbL sL).length = L.length + 36 + (cbL sL).length := by rw [List.length_append, l1]
      rw [if_pos (show j ≤ k by omega)] at hl
      refine ok_gd (cpk_nI (by omega) (by omega) (by omega) (by omega)) (ok_gd (bfit_nI (by omega) (by omega) (fun i _ => hst _)) ?_)
      rw [nI_clamp (n := sA) (by omega), nI_clamp (n := (L ++ bl st i.1 36 ++ cbL sL).length) (by omega), nI_clamp (n := sL) (by omega)]
      refine ok_bnd (ok_bn (nI_add _ _) ?_)
      have m2 := mF_c (s := sA) (m := sL) w2 rfl (fun i _ => hst _)
      have l3 : (L ++ bl st i.1 36 ++ (cbL sL ++ bl st sA sL)).length = L.length + 36 + (cbL sL).length + sL := by rw [← List.append_assoc, List.length_append, l2, bl_len]
      rw [List.append_assoc (L ++ bl st i.1 36)] at m2
      have g := G (cbL sL ++ bl st sA sL) _ m2 (by rw [if_pos c, bl_len]) (by rw [l3]; omega) (by rw [l3, if_neg (by omega)]; omega)
      rw [l3, ← l2] at g
      exact g
    · refine ok_f (fun e => c (by have := (nI_eq (by omega) (by omega)).mp e; omega)) (ok_bn (nI_1 _) (ok_gd (inb_nI (by omega) (by omega)) ?_))
      rw [nI_clamp (n := L.length + 36) (by omega), nar0]
      refine ok_bnd ?_
      have m2 := mF_u m1 (x := 0) (by decide) (n := L.length + 36) l1.symm
      have l3 : (L ++ bl st i.1 36 ++ [0]).length = L.length + 36 + 1 := by rw [List.length_append, l1]; rfl
      have g := G [0] _ m2 (by rw [if_neg c]) (by rw [l3]; omega) (by
        rw [l3]
        by_cases d : j + 1 ≤ k
        · rw [if_pos d]
          rw [if_pos (by omega)] at hl
          omega
        · rw [if_neg d]
          omega)
      rw [l3] at g
      exact g
set_option maxHeartbeats 1000000 in
theorem v_M_message (fu : Nat) (hfu : 300 ≤ fu) (z st e1 e2 e3 e4 e5 e6 e8 u : Nat → Int32) {T : Tx5} {t i0 k sA sL : Nat} (hE : mgE st e1 e2 e3 e4 e5 e6 e8 T t i0) (h12 : z 12 = nI (i0 + k)) (h13 : z 13 = nI t) (h14 : z 14 = nI sA) (h15 : z 15 = nI sL) (hs : sA + sL ≤ 103000) (hsL : sL ≤ 1000) (hk : k < 2600) : ok (x_M_message fu z st e1 e2 e3 e4 e5 e6 e8 u) (fun x => x.1 = nI (msG st (bl st sA sL) k T).length ∧ mF x.2 (msG st (bl st sA sL) k T)) := by
  unfold x_M_message
  have hE' := hE
  obtain ⟨⟨b1, b2, b3, b4, b5, b6, b7⟩, ⟨a1, a2, a3, a4, a5⟩, hin, hst⟩ := hE
  rw [h13, nI_clamp (n := t) (by omega), a1, a3, a4]
  refine ok_gd (inb_nI b1 (by omega)) (ok_bnd (ok_gd (cpk_nI (b := 0) (n := 4) (by omega) (by omega) (by omega) (by omega)) (ok_gd (bfit_nI (n := 4) (by omega) (by omega) (fun i _ => hst _)) ?_)))
  rw [nI_clamp (n := T.1) (by omega), show (0 : Int32).toNatClampNeg = 0 from rfl, show (4 : Int32).toNatClampNeg = 4 from rfl]
  refine ok_bnd (ok_gd (inb_nI b1 (by omega)) (ok_bnd ?_))
  have m1 := mF_c (s := T.1) (m := 4) (mF_0 u) (n := 0) rfl (fun i _ => hst _)
  rw [List.nil_append] at m1
  have v := v_M_count1 fu z (va_cpy st u T.1 0 4) m1 (by rw [bl_len]; omega) (n := T.2.1.length) (by omega)
  rw [bl_len] at v
  refine ok_bd2 v (fun x f w => ok_gd (inb_nI b1 (by omega)) (ok_bnd ?_))
  obtain ⟨w1, w2⟩ := w
  replace w1 : x = nI (bl st T.1 4 ++ cbL T.2.1.length).length := w1
  replace w2 : mF f (bl st T.1 4 ++ cbL T.2.1.length) := w2
  subst w1
  have cl := cbL_le T.2.1.length
  have := l_ms45 fu hfu z st e1 e2 e3 e4 e5 e6 e8 hE' h12 h14 h15 hs hsL hk T.2.1 0 fu _ f rfl (Nat.zero_add _) (by omega) w2 (by rw [List.length_append, bl_len, if_pos (Nat.zero_le _)]; omega)
  rw [List.append_assoc, Nat.add_zero] at this
  exact this
