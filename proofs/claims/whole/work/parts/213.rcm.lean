-- the reference's table: a transaction's outputs come
abbrev T7c : Type := (Nat → Int32) × (Nat → Int32) × (Nat → Int32) × (Nat → Int32) × (Nat → Int32) × (Nat → Int32) × (Nat → Int32)
/-- what come leaves -/
def cmQ (rw : Nat → List Int32) (hgt : Nat → Nat) (V : Nat → Nat → Prop) (oG : Nat → Nat → Nat) (N : Nat) (z : Nat → Int32) (U' : List Cn) (x : T7c) : Prop := (∀ j, j ≠ 19 → x.1 j = z j) ∧ x.1 19 = nI N ∧ ∃ cs, rTab rw hgt V oG N cs x.2.1 x.2.2.1 x.2.2.2.1 x.2.2.2.2.1 x.2.2.2.2.2.1 ∧ liv N x.2.2.2.2.2.1 cs = U'
set_option maxHeartbeats 1000000 in
theorem l_co54 (fu : Nat) (hfu : 12000 ≤ fu) (gI gO gOs gT : Nat → Int32) {rw : Nat → List Int32} {hgt : Nat → Nat} {V : Nat → Nat → Prop} {tG oG : Nat → Nat → Nat} (hG : rCn rw V tG oG gI gO gOs gT) {b t : Nat} (hV : V b t) {x3 : Int32} (hx3 : tf (t = 0) x3) {id : Nat → Int32} (hid : ∀ i, i < 32 → id i = idT rw b t i) {U0 : List Cn} {z0 : Nat → Int32} {N0 : Nat} (hN0 : N0 + (txO rw b t).2.2.2.1.length ≤ 11600) : ∀ r j n z cs (uO uH uN ch uI : Nat → Int32), j + r = (txO rw b t).2.2.2.1.length → r < n → (∀ j, j ≠ 19 → z j = z0 j) → z 19 = nI (N0 + j) → rTab rw hgt V oG (N0 + j) cs uO uH uN ch uI → liv (N0 + j) uI cs = adO rw b t U0 j → ok (x_M_come_54 fu gI gO gOs gT n (nI (tG b t)) (nI (hgt b)) x3 (nI (oG b t + j)) z uO uH uN ch uI id) (cmQ rw hgt V oG (N0 + (txO rw b t).2.2.2.1.length) z0 (adO rw b t U0 (txO rw b t).2.2.2.1.length)) := by
  obtain ⟨⟨g1, g2⟩, g3, g4, g5, g6⟩ := hG b t hV
  intro r
  induction r with
  | zero =>
    intro j n z cs uO uH uN ch uI hj hn hz h19 hT hl
    obtain ⟨n, rfl⟩ : ∃ m, n = m + 1 := ⟨n - 1, by omega⟩
    have ej : j = (txO rw b t).2.2.2.1.length := by omega
    show ok (xb_M_come_54 fu gI gO gOs gT (x_M_come_54 fu gI gO gOs gT n) (nI (tG b t)) (nI (hgt b)) x3 (nI (oG b t + j)) z uO uH uN ch uI id) _
    unfold xb_M_come_54
    refine ok_gd (inb_nI g1 (by decide)) ?_
    rw [nI_clamp (n := tG b t) (by omega), g4, g5]
    refine ok_bnd (ok_gd (inb_nI g1 (by decide)) (ok_bnd ?_))
    rw [nI_add]
    refine ok_t ((nI_leI (by omega) (by omega)).mpr (by omega)) (ok_some ?_)
    rw [← ej]
    exact ⟨hz, h19, cs, hT, hl⟩
  | succ r ih =>
    intro j n z cs uO uH uN ch uI hj hn hz h19 hT hl
    obtain ⟨n, rfl⟩ : ∃ m, n = m + 1 := ⟨n - 1, by omega⟩
    show ok (xb_M_come_54 fu gI gO gOs gT (x_M_come_54 fu gI gO gOs gT n) (nI (tG b t)) (nI (hgt b)) x3 (nI (oG b t + j)) z uO uH uN ch uI id) _
    unfold xb_M_come_54
    refine ok_gd (inb_nI g1 (by decide)) ?_
    rw [nI_clamp (n := tG b t) (by omega), g4, g5]
    refine ok_bnd (ok_gd (inb_nI g1 (by decide)) (ok_bnd ?_))
    rw [nI_add]
    refine ok_f (fun e => by have := (nI_leI (by omega) (by omega)).mp e; omega) (ok_gd (inb_nI g1 (by decide)) (ok_bnd (ok_bn (e' := nI j) (by rw [nI_sb (by omega), Nat.add_sub_cancel_left]) ?_)))
    have ek : bl id 0 32 = cnI rw (b, t, j) := bl_c _ _ _ fun i hi => by rw [Nat.zero_add]; exact hid i hi
    have R : ∀ (uI' : Nat → Int32), rTab rw hgt V oG (N0 + j) cs uO uH uN ch uI' → liv (N0 + j) uI' cs = (adO rw b t U0 j).filter (fun c => decide (cnK rw c ≠ cnK rw (b, t, j))) → (∀ e, e < N0 + j → uI' e = 1 → cnK rw (cs e) ≠ cnK rw (b, t, j)) → ok (xb_M_come_105 fu gI gO gOs gT (x_M_come_54 fu gI gO gOs gT n) (nI (tG b t)) (nI (hgt b)) x3 (nI (oG b t + j)) z uO uH uN ch uI' id) (cmQ rw hgt V oG (N0 + (txO rw b t).2.2.2.1.length) z0 (adO rw b t U0 (txO rw b t).2.2.2.1.length)) := fun uI' hT' hl' hno => by
      obtain ⟨T1, T2⟩ := rTab_1 (c := (b, t, j)) (by omega) hT' hV (show j < (txO rw b t).2.2.2.1.length by omega) hno
      unfold xb_M_come_105
      refine ok_bn (pk_mul 8 (tG b t)) (ok_gd (inb_nI (by omega) (by decide)) ?_)
      rw [nI_clamp (n := 8 * tG b t) (by omega), show gI (8 * tG b t) = nI (leP (idT rw b t) 0 4) from g3 0 (by decide)]
      refine ok_bnd (ok_gd (inb_nI g1 (by decide)) ?_)
      rw [nI_clamp (n := tG b t) (by omega), g4]
      refine ok_bnd (ok_bn (e' := nI j) (by rw [nI_sb (by omega), Nat.add_sub_cancel_left]) ?_)
      rw [v_M_placeOf, bd1_q, h19]
      have hp := plc_lt (nI (leP (idT rw b t) 0 4)) (nI j)
      refine ok_gd (inb_nI (by omega) (by decide)) ?_
      rw [nI_clamp (n := N0 + j) (by omega)]
      have NX : ∀ y0 : Int32, y0 = cnH hgt (b, t, j) → ok (xb_M_come_159 fu gI gO gOs gT (x_M_come_54 fu gI gO gOs gT n) (nI (tG b t)) (nI (hgt b)) x3 (nI (oG b t + j)) (nI (plc (nI (leP (idT rw b t) 0 4)) (nI j))) y0 (nI (N0 + j)) z (upd uO (N0 + j) (nI (oG b t + j))) uH uN ch uI' id) (cmQ rw hgt V oG (N0 + (txO rw b t).2.2.2.1.length) z0 (adO rw b t U0 (txO rw b t).2.2.2.1.length)) := fun y0 hy => by
        subst hy
        unfold xb_M_come_159
        rw [h19, nI_clamp (n := N0 + j) (by omega), nI_clamp (n := plc (nI (leP (idT rw b t) 0 4)) (nI j)) (by omega), show vp_nar .boolean (1 : Int32) = (1 : Int32) from rfl]
        refine ok_gd (inb_nI (by omega) (by decide)) (ok_bnd (ok_gd (inb_nI (by omega) (by decide)) (ok_bnd (ok_gd (inb_nI hp (by decide)) (ok_bnd (ok_gd (inb_nI (by omega) (by decide)) (ok_bnd (ok_gd (inb_nI hp (by decide)) (ok_bnd (ok_bn (nI_1 _) (ok_bnd (ok_bn (nI_1 _) ?_))))))))))))
        exact ih (j + 1) n (upd z 19 (nI (N0 + j + 1))) (va_up cs (N0 + j) (b, t, j)) (upd uO (N0 + j) (nI (oG b t + j))) (upd uH (N0 + j) (cnH hgt (b, t, j))) (upd uN (N0 + j) (ch (plc (nI (leP (idT rw b t) 0 4)) (nI j)))) (upd ch (plc (nI (leP (idT rw b t) 0 4)) (nI j)) (nI (N0 + j))) (upd uI' (N0 + j) 1) (by omega) (by omega) (fun k hk => by rw [pk_un hk]; exact hz k hk) pk_us T1 (T2.trans (by rw [hl']; rfl))
      refine ok_bnd (ok_tf hx3 (fun q => NX _ ?_) (fun q => NX _ ?_))
      · unfold cnH
        rw [if_neg q]
      · unfold cnH
        rw [if_pos q]
    refine ok_bd1 (v_M_entryC fu hfu z gI gO gOs gT uO uH uN ch uI (by omega) hG hT (n1 := 32) (by decide) (h1 := id) (a := 0) (by decide) (fun i hi => by rw [Nat.zero_add, hid i hi]; exact idT_f _ _ _ _) (x3 := j) (by omega)) (fun v5 hv => ?_)
    rw [ek] at hv
    rcases hv with ⟨rfl, v2, -⟩ | ⟨e, v1, v2, v3, rfl, -⟩
    · refine ok_t (by decide) (R uI hT ?_ v2)
      rw [← hl]
      exact (liv_n v2).symm
    · refine ok_f (fun q => by have := (nI_ltI (a := e) (b := 0) (by omega) (by omega)).mp q; omega) (ok_gd (inb_nI (by omega) (by decide)) ?_)
      rw [nI_clamp (n := e) (by omega), show vp_nar .boolean (0 : Int32) = (0 : Int32) from rfl]
      have hl0 := liv_0 hT.2.2 v1 v2 v3
      refine ok_bnd (R (upd uI e 0) (rTab_0 hT e) ?_ (fun e' he h1 hk => ?_))
      · rw [hl0, hl]
        first | done | rfl
      · by_cases q : e' = e
        · rw [q, pk_us] at h1
          exact absurd h1 (by decide)
        · rw [pk_un q] at h1
          exact q (hT.2.2 e' e he v1 h1 v2 (hk.trans v3.symm))
set_option maxHeartbeats 1000000 in
theorem i_mod {i : Nat} (hi : i < 32) : (8 : Int32) * (nI i - nI i / (4 : Int32) * (4 : Int32)) = (8 : Int32) * nI (i % 4) ∧ nI i / (4 : Int32) = nI (i / 4) := by
  have h2 : nI i / (4 : Int32) = nI (i / 4) := pk_div (d := 4) (by omega) (by decide) (by decide)
  refine ⟨?_, h2⟩
  rw [h2, show (4 : Int32) = nI 4 from rfl, pk_mul, nI_sb (by omega), show i - i / 4 * 4 = i % 4 from by omega]
set_option maxHeartbeats 1000000 in
theorem v_M_come (fu : Nat) (hfu : 12000 ≤ fu) (gI gO gOs gT : Nat → Int32) {rw : Nat → List Int32} {hgt : Nat → Nat} {V : Nat → Nat → Prop} {tG oG : Nat → Nat → Nat} (hG : rCn rw V tG oG gI gO gOs gT) {b t : Nat} (hV : V b t) {x3 : Int32} (hx3 : tf (t = 0) x3) {z : Nat → Int32} {N : Nat} (hN : N + (txO rw b t).2.2.2.1.length ≤ 11600) (h19 : z 19 = nI N) {cs : Nat → Cn} {uO uH uN ch uI : Nat → Int32} (hT : rTab rw hgt V oG N cs uO uH uN ch uI) (id : Nat → Int32) : ok (x_M_come fu gI gO gOs gT (nI (tG b t)) (nI (hgt b)) x3 z uO uH uN ch uI id) (cmQ rw hgt V oG (N + (txO rw b t).2.2.2.1.length) z (adO rw b t (liv N uI cs) (txO rw b t).2.2.2.1.length)) := by
  obtain ⟨⟨g1, g2⟩, g3, g4, g5, g6⟩ := hG b t hV
  unfold x_M_come
  have L : ∀ r i n id, i + r = 32 → r < n → (∀ k, k < i → id k = idT rw b t k) → ok (x_M_come_3 fu gI gO gOs gT n (nI (tG b t)) (nI (hgt b)) x3 (nI i) z uO uH uN ch uI id) (cmQ rw hgt V oG (N + (txO rw b t).2.2.2.1.length) z (adO rw b t (liv N uI cs) (txO rw b t).2.2.2.1.length)) := by
    intro r
    induction r with
    | zero =>
      intro i n id hi hn hid
      obtain ⟨n, rfl⟩ : ∃ m, n = m + 1 := ⟨n - 1, by omega⟩
      show ok (xb_M_come_3 fu gI gO gOs gT (x_M_come_3 fu gI gO gOs gT n) (nI (tG b t)) (nI (hgt b)) x3 (nI i) z uO uH uN ch uI id) _
      unfold xb_M_come_3
      refine ok_t ((nI_leI (a := 32) (by omega) (by omega)).mpr (by omega)) (ok_gd (inb_nI g1 (by decide)) ?_)
      rw [nI_clamp (n := tG b t) (by omega), g4]
      refine ok_bnd ?_
      exact l_co54 fu hfu gI gO gOs gT hG hV hx3 (fun k hk => hid k (by omega)) hN (txO rw b t).2.2.2.1.length 0 fu z cs uO uH uN ch uI (Nat.zero_add _) (by omega) (fun _ _ => rfl) h19 hT rfl
    | succ r ih =>
      intro i n id hi hn hid
      obtain ⟨n, rfl⟩ : ∃ m, n = m + 1 := ⟨n - 1, by omega⟩
      show ok (xb_M_come_3 fu gI gO gOs gT (x_M_come_3 fu gI gO gOs gT n) (nI (tG b t)) (nI (hgt b)) x3 (nI i) z uO uH uN ch uI id) _
      unfold xb_M_come_3
      obtain ⟨m1, m2⟩ := i_mod (i := i) (by omega)
      refine ok_f (fun e => by have := (nI_leI (a := 32) (by omega) (by omega)).mp e; omega) (ok_bn (pk_mul 8 (tG b t)) ?_)
      rw [m1, m2, nI_clamp (n := i) (by omega)]
      refine ok_bn (nI_add _ _) (ok_gd (inb_nI (by omega) (by decide)) ?_)
      rw [nI_clamp (n := 8 * tG b t + i / 4) (by omega), g3 (i / 4) (by omega)]
      have ew : (nI (leP (idT rw b t) (4 * (i / 4)) 4) >>> (((8 : Int32) * nI (i % 4)) &&& 31)).toInt8.toInt32 = idT rw b t i := by
        rw [w_by (p := idT rw b t) (a := 4 * (i / 4)) (r := i % 4) (by omega) (idT_f _ _ _ _), show 4 * (i / 4) + i % 4 = i from by omega]
      have ev : vp_nar .byte (idT rw b t i) = idT rw b t i := by
        rw [← ew]
        exact pk_vb _
      refine ok_bnd (ok_bn ew (ok_gd (inb_nI (by omega) (by decide)) ?_))
      rw [ev]
      refine ok_bnd (ok_bn (nI_1 i) (ih (i + 1) n _ (by omega) (by omega) (fun k hk => ?_)))
      by_cases q : k = i
      · rw [q, pk_us]
      · rw [pk_un q]; exact hid k (by omega)
  exact L 32 0 fu id rfl (by omega) (fun k hk => absurd hk (Nat.not_lt_zero _))
set_option maxHeartbeats 1000000 in
/-- an empty table -/
theorem v_M_clear (fu : Nat) (hfu : 40000 ≤ fu) {z : Nat → Int32} {O : Nat} (hO : O ≤ 11600) (h7 : z 7 = nI O) (ch uI : Nat → Int32) : ok (x_M_clear fu z ch uI) (fun x => (∀ p, p < 32768 → x.1 p = -1)) := by
  have L2 : ∀ r i n ch uI, i + r = O → r < n → (∀ p, p < 32768 → ch p = -1) → ok (x_M_clear_23 fu z n (nI i) ch uI) (fun x => (∀ p, p < 32768 → x.1 p = -1)) := by
    intro r
    induction r with
    | zero =>
      intro i n ch uI hi hn hc
      obtain ⟨n, rfl⟩ : ∃ m, n = m + 1 := ⟨n - 1, by omega⟩
      show ok (xb_M_clear_23 fu z (x_M_clear_23 fu z n) (nI i) ch uI) _
      unfold xb_M_clear_23
      rw [h7]
      exact ok_t ((nI_leI (by omega) (by omega)).mpr (by omega)) (ok_some hc)
    | succ r ih =>
      intro i n ch uI hi hn hc
      obtain ⟨n, rfl⟩ : ∃ m, n = m + 1 := ⟨n - 1, by omega⟩
      show ok (xb_M_clear_23 fu z (x_M_clear_23 fu z n) (nI i) ch uI) _
      unfold xb_M_clear_23
      rw [h7]
      refine ok_f (fun e => by have := (nI_leI (by omega) (by omega)).mp e; omega) (ok_gd (inb_nI (by omega) (by decide)) (ok_bnd (ok_bn (nI_1 i) (ih (i + 1) n _ _ (by omega) (by omega) hc))))
  have L1 : ∀ r i n ch uI, i + r = 32768 → r < n → (∀ p, p < i → ch p = -1) → ok (x_M_clear_2 fu z n (nI i) ch uI) (fun x => (∀ p, p < 32768 → x.1 p = -1)) := by
    intro r
    induction r with
    | zero =>
      intro i n ch uI hi hn hc
      obtain ⟨n, rfl⟩ : ∃ m, n = m + 1 := ⟨n - 1, by omega⟩
      show ok (xb_M_clear_2 fu z (x_M_clear_2 fu z n) (nI i) ch uI) _
      unfold xb_M_clear_2
      exact ok_t ((nI_leI (a := 32768) (by omega) (by omega)).mpr (by omega)) (L2 O 0 fu ch uI (Nat.zero_add _) (by omega) (fun p hp => hc p (by omega)))
    | succ r ih =>
      intro i n ch uI hi hn hc
      obtain ⟨n, rfl⟩ : ∃ m, n = m + 1 := ⟨n - 1, by omega⟩
      show ok (xb_M_clear_2 fu z (x_M_clear_2 fu z n) (nI i) ch uI) _
      unfold xb_M_clear_2
      refine ok_f (fun e => by have := (nI_leI (a := 32768) (by omega) (by omega)).mp e; omega) (ok_gd (inb_nI (by omega) (by decide)) ?_)
      rw [nI_clamp (n := i) (by omega)]
      refine ok_bnd (ok_bn (nI_1 i) (ih (i + 1) n _ _ (by omega) (by omega) (fun p hp => ?_)))
      by_cases q : p = i
      · rw [q, pk_us]
      · rw [pk_un q]; exact hc p (by omega)
  exact L1 32768 0 fu ch uI rfl (by omega) (fun p hp => absurd hp (Nat.not_lt_zero _))
