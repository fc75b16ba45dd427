-- the reference's table of what is unspent: entry
def plc (w x : Int32) : Nat := U ((((w * (31 : Int32) + x) * (-1640531535 : Int32)).toUInt32 >>> ((17 : Int32).toUInt32 &&& Int32.toUInt32 31)).toInt32)
set_option maxHeartbeats 1000000 in
theorem plc_lt (w x : Int32) : plc w x < 32768 := by
  unfold plc
  have h := pk_ushr ((w * (31 : Int32) + x) * (-1640531535 : Int32)) (17 : Int32) 17 (by decide)
  show (((((w * (31 : Int32) + x) * (-1640531535 : Int32)).toUInt32 >>> ((17 : Int32).toUInt32 &&& Int32.toUInt32 31)).toInt32).toBitVec.toNat) < 32768
  rw [h]
  have := ((w * (31 : Int32) + x) * (-1640531535 : Int32)).toBitVec.isLt
  omega
set_option maxHeartbeats 1000000 in
theorem v_M_placeOf (fu : Nat) (z : Nat → Int32) (w x : Int32) : x_M_placeOf fu z w x = some (nI (plc w x)) := by
  unfold x_M_placeOf plc
  rw [nI_U]
  rfl
/-- a chain of entries -/
def chW (uN : Nat → Int32) : Int32 → List Nat → Prop
  | x, [] => x = -1
  | x, e :: L => x = nI e ∧ e < 11600 ∧ chW uN (uN e) L
set_option maxHeartbeats 1000000 in
theorem chW_c {uN uN' : Nat → Int32} : ∀ L x, chW uN x L → (∀ e, e ∈ L → uN' e = uN e) → chW uN' x L
  | [], x, h, _ => h
  | e :: L, x, h, hc => ⟨h.1, h.2.1, by rw [hc e List.mem_cons_self]; exact chW_c L _ h.2.2 (fun e' he => hc e' (List.mem_cons_of_mem _ he))⟩
/-- the table's chains -/
def chP (n : Nat) (plE : Nat → Nat) (uN ch : Nat → Int32) : Prop := ∀ p, p < 32768 → ∃ L, chW uN (ch p) L ∧ (∀ e, e < n → plE e = p → e ∈ L) ∧ (∀ e, e ∈ L → e < n) ∧ L.length ≤ n
/-- what the entries are -/
def enE (n : Nat) (idE : Nat → Nat → Int32) (jE oE tE bE : Nat → Nat) (gI gO gT uO uI : Nat → Int32) : Prop := ∀ e, e < n → (uO e = nI (oE e) ∧ gT (oE e) = nI (tE e) ∧ gO (tE e) = nI (bE e) ∧ oE e = bE e + jE e ∧ oE e < 11600 ∧ tE e < 2200) ∧ (∀ i, i < 8 → gI (8 * tE e + i) = nI (leP (idE e) (4 * i) 4)) ∧ (∀ j, j < 32 → fits .byte (.int (idE e j)) = true) ∧ (uI e = 0 ∨ uI e = 1)
def plE (idE : Nat → Nat → Int32) (jE : Nat → Nat) (e : Nat) : Nat := plc (nI (leP (idE e) 0 4)) (nI (jE e))
/-- this entry has this key -/
def kyE (idE : Nat → Nat → Int32) (jE : Nat → Nat) (h1 : Nat → Int32) (a x3 e : Nat) : Prop := bl (idE e) 0 32 = bl h1 a 32 ∧ jE e = x3
set_option maxHeartbeats 1000000 in
theorem l_en77 (fu : Nat) (z gI gO gT uO uN ch uI : Nat → Int32) {n1 : Nat} (hn1 : n1 < 2 ^ 30) {h1 : Nat → Int32} {a : Nat} (ha : a + 32 ≤ n1) {id : Nat → Int32} {t : Nat} (ht : t < 2200) (hI : ∀ i, i < 8 → gI (8 * t + i) = nI (leP id (4 * i) 4)) (K : Int32 → Int32 → Int32 → Option Int32) (x3 x4 : Int32) (Q : Int32 → Prop) {A : Prop} (h0 : ¬ (A ∧ fa (fun i => leP id (4 * i) 4 = leP h1 (a + 4 * i) 4) 0 8) → ok (xb_M_entry_136 fu z gI gO gT uO uN ch uI n1 h1 K (nI a) x3 x4) Q) (h2 : A ∧ fa (fun i => leP id (4 * i) 4 = leP h1 (a + 4 * i) 4) 0 8 → Q x4) : ∀ r i n x7, i + r = 8 → r < n → tf (A ∧ fa (fun i => leP id (4 * i) 4 = leP h1 (a + 4 * i) 4) 0 i) x7 → ok (x_M_entry_77 fu z gI gO gT uO uN ch uI n1 h1 K n (nI a) x3 x4 (nI t) x7 (nI i)) Q := by
  have E : ∀ i x7, i ≤ 8 → tf (A ∧ fa (fun i => leP id (4 * i) 4 = leP h1 (a + 4 * i) 4) 0 i) x7 → (i = 8 ∨ x7 = 0) → ok (xb_M_entry_128 fu z gI gO gT uO uN ch uI n1 h1 K (nI a) x3 x4 x7) Q := fun i x7 hi hx hc => by
    unfold xb_M_entry_128
    refine ok_tf hx (fun q => h0 fun w => q ⟨w.1, fun m m1 m2 => w.2 m m1 (by omega)⟩) (fun q => ok_some (h2 ?_))
    rcases hc with e | e
    · subst e; exact q
    · rcases hx with ⟨-, e'⟩ | ⟨e', -⟩
      · rw [e] at e'; exact absurd e' (by decide)
      · exact absurd q e'
  intro r
  induction r with
  | zero =>
    intro i n x7 hi hn hx
    obtain ⟨n, rfl⟩ : ∃ m, n = m + 1 := ⟨n - 1, by omega⟩
    show ok (xb_M_entry_77 fu z gI gO gT uO uN ch uI n1 h1 K (x_M_entry_77 fu z gI gO gT uO uN ch uI n1 h1 K n) (nI a) x3 x4 (nI t) x7 (nI i)) _
    unfold xb_M_entry_77
    exact ok_t ((nI_leI (a := 8) (by omega) (by omega)).mpr (by omega)) (E i x7 (by omega) hx (Or.inl (by omega)))
  | succ r ih =>
    intro i n x7 hi hn hx
    obtain ⟨n, rfl⟩ : ∃ m, n = m + 1 := ⟨n - 1, by omega⟩
    show ok (xb_M_entry_77 fu z gI gO gT uO uN ch uI n1 h1 K (x_M_entry_77 fu z gI gO gT uO uN ch uI n1 h1 K n) (nI a) x3 x4 (nI t) x7 (nI i)) _
    unfold xb_M_entry_77
    refine ok_f (fun e => by have := (nI_leI (a := 8) (by omega) (by omega)).mp e; omega) ?_
    refine ok_tf hx (fun q => E i x7 (by omega) hx (Or.inr ?_)) (fun q => ?_)
    · rcases hx with ⟨w, -⟩ | ⟨-, w⟩
      · exact absurd w q
      · exact w
    refine ok_bn (pk_mul 8 t) (ok_bn (nI_add _ _) (ok_gd (inb_nI (by omega) (by decide)) ?_))
    rw [nI_clamp (n := 8 * t + i) (by omega), hI i (by omega)]
    refine ok_bnd (ok_bn (e' := nI (a + 4 * i)) (by rw [show (4 : Int32) = nI 4 from rfl, pk_mul, nI_add]) ?_)
    rw [m_small fu n1 (by omega) h1 (o := a + 4 * i) (by omega), bd1_q]
    unfold xb_M_entry_120
    have l1 := leP_32 id (4 * i) 4 (by decide)
    have l2 := leP_32 h1 (a + 4 * i) 4 (by decide)
    by_cases c : leP id (4 * i) 4 = leP h1 (a + 4 * i) 4
    · refine ok_t (by rw [c]) (ok_bn (nI_1 i) (ih (i + 1) n 1 (by omega) (by omega) (tf_1 ⟨q.1, fun m m1 m2 => ?_⟩)))
      by_cases e : m = i
      · subst e; exact c
      · exact q.2 m m1 (by omega)
    · refine ok_f (fun e => c ((nI_eq32 l1 l2).mp e)) (ok_bn (nI_1 i) (ih (i + 1) n 0 (by omega) (by omega) (tf_0 fun w => c (w.2 i (by omega) (by omega)))))
set_option maxHeartbeats 1000000 in
theorem l_en17 (fu : Nat) (hfu : 100 ≤ fu) (z gI gO gT uO uN ch uI : Nat → Int32) {n1 : Nat} (hn1 : n1 < 2 ^ 30) {h1 : Nat → Int32} {a : Nat} (ha : a + 32 ≤ n1) (hh : ∀ j, j < 32 → fits .byte (.int (h1 (a + j))) = true) {N : Nat} {idE : Nat → Nat → Int32} {jE oE tE bE : Nat → Nat} (hE : enE N idE jE oE tE bE gI gO gT uO uI) {x3 : Nat} (hx3 : x3 < 2 ^ 32) : ∀ L n x4, L.length < n → chW uN x4 L → (∀ e, e ∈ L → e < N) → ok (x_M_entry_17 fu z gI gO gT uO uN ch uI n1 h1 n (nI a) (nI x3) x4) (fun y => (y = -1 ∧ ∀ e, e ∈ L → uI e = 1 → ¬ kyE idE jE h1 a x3 e) ∨ ∃ e, e ∈ L ∧ uI e = 1 ∧ kyE idE jE h1 a x3 e ∧ y = nI e)
  | [], n, x4, hn, hc, hN => by
    obtain ⟨n, rfl⟩ : ∃ m, n = m + 1 := ⟨n - 1, by omega⟩
    show ok (xb_M_entry_17 fu z gI gO gT uO uN ch uI n1 h1 (x_M_entry_17 fu z gI gO gT uO uN ch uI n1 h1 n) (nI a) (nI x3) x4) _
    unfold xb_M_entry_17
    replace hc : x4 = -1 := hc
    rw [hc]
    exact ok_t (by decide) (ok_some (Or.inl ⟨rfl, fun e he => absurd he (by simp)⟩))
  | e :: L, n, x4, hn, hc, hN => by
    obtain ⟨n, rfl⟩ : ∃ m, n = m + 1 := ⟨n - 1, by omega⟩
    replace hn : L.length + 1 < n + 1 := hn
    obtain ⟨rfl, h2, h3⟩ := hc
    obtain ⟨⟨f1, f2, f3, f4, f5, f6⟩, f7, f8, f9⟩ := hE e (hN e List.mem_cons_self)
    have ih := l_en17 fu hfu z gI gO gT uO uN ch uI hn1 ha hh hE hx3 L n (uN e) (by omega) h3 (fun e' he => hN e' (List.mem_cons_of_mem _ he))
    have NX : (uI e = 1 → ¬ kyE idE jE h1 a x3 e) → ok (xb_M_entry_136 fu z gI gO gT uO uN ch uI n1 h1 (x_M_entry_17 fu z gI gO gT uO uN ch uI n1 h1 n) (nI a) (nI x3) (nI e)) (fun y => (y = -1 ∧ ∀ e', e' ∈ e :: L → uI e' = 1 → ¬ kyE idE jE h1 a x3 e') ∨ ∃ e', e' ∈ e :: L ∧ uI e' = 1 ∧ kyE idE jE h1 a x3 e' ∧ y = nI e') := fun hno => by
      unfold xb_M_entry_136
      refine ok_gd (inb_nI h2 (by decide)) ?_
      rw [nI_clamp (n := e) (by omega)]
      refine ok_bnd (ok_mono ih fun y hy => ?_)
      rcases hy with ⟨y1, y2⟩ | ⟨e', y1, y2, y3, y4⟩
      · refine Or.inl ⟨y1, fun e' he => ?_⟩
        rcases List.mem_cons.mp he with rfl | he
        · exact hno
        · exact y2 e' he
      · exact Or.inr ⟨e', List.mem_cons_of_mem _ y1, y2, y3, y4⟩
    show ok (xb_M_entry_17 fu z gI gO gT uO uN ch uI n1 h1 (x_M_entry_17 fu z gI gO gT uO uN ch uI n1 h1 n) (nI a) (nI x3) (nI e)) _
    unfold xb_M_entry_17
    refine ok_f (fun q => by have := (nI_ltI (a := e) (b := 0) (by omega) (by omega)).mp q; omega) (ok_gd (inb_nI h2 (by decide)) ?_)
    rw [nI_clamp (n := e) (by omega)]
    refine ok_bnd ?_
    rcases f9 with f9 | f9
    · exact ok_t f9 (NX (fun q => by rw [f9] at q; exact absurd q (by decide)))
    refine ok_f (by rw [f9]; decide) (ok_gd (inb_nI h2 (by decide)) ?_)
    rw [f1]
    refine ok_bnd (ok_gd (inb_nI f5 (by decide)) ?_)
    rw [nI_clamp (n := oE e) (by omega), f2]
    refine ok_bnd (ok_gd (inb_nI f6 (by decide)) ?_)
    rw [nI_clamp (n := tE e) (by omega), f3]
    refine ok_bnd (ok_bn (e' := nI (jE e)) (by rw [nI_sb (by omega)]; congr 1; omega) ?_)
    have key := w8_i (p := idE e) (q := h1) (a := 0) (b := a) (fun j hj => by rw [Nat.zero_add]; exact f8 j hj) hh
    have k2 : fa (fun i => leP (idE e) (4 * i) 4 = leP h1 (a + 4 * i) 4) 0 8 ↔ bl (idE e) 0 32 = bl h1 a 32 := by
      rw [← key]
      exact ⟨fun h m m1 m2 => by show leP (idE e) (0 + 4 * m) 4 = leP h1 (a + 4 * m) 4; rw [Nat.zero_add]; exact h m m1 m2, fun h m m1 m2 => by have q : leP (idE e) (0 + 4 * m) 4 = leP h1 (a + 4 * m) 4 := h m m1 m2; rw [Nat.zero_add] at q; exact q⟩
    have W : ∀ y0, tf (jE e = x3) y0 → ok (xb_M_entry_72 fu z gI gO gT uO uN ch uI n1 h1 (x_M_entry_17 fu z gI gO gT uO uN ch uI n1 h1 n) (nI a) (nI x3) (nI e) (nI (tE e)) y0) (fun y => (y = -1 ∧ ∀ e', e' ∈ e :: L → uI e' = 1 → ¬ kyE idE jE h1 a x3 e') ∨ ∃ e', e' ∈ e :: L ∧ uI e' = 1 ∧ kyE idE jE h1 a x3 e' ∧ y = nI e') := fun y0 hy => by
      unfold xb_M_entry_72
      refine l_en77 fu z gI gO gT uO uN ch uI hn1 ha f6 f7 _ _ _ _ (A := jE e = x3) (fun q => NX (fun _ w => q ⟨w.2, k2.mpr w.1⟩)) (fun q => Or.inr ⟨e, List.mem_cons_self, f9, ⟨k2.mp q.2, q.1⟩, rfl⟩) 8 0 fu y0 rfl (by omega) (tf_c ⟨fun q => ⟨q, fun m m1 m2 => absurd m2 (Nat.not_lt_zero _)⟩, fun q => q.1⟩ hy)
    by_cases c : jE e = x3
    · exact ok_t (by rw [c]) (W 1 (tf_1 c))
    · exact ok_f (fun q => c ((nI_eq32 (by omega) hx3).mp q)) (W 0 (tf_0 c))
/-- what entry answers -/
def enQ2 (N : Nat) (uI : Nat → Int32) (Q : Nat → Prop) (y : Int32) : Prop := (y = -1 ∧ ∀ e, e < N → uI e = 1 → ¬ Q e) ∨ ∃ e, e < N ∧ uI e = 1 ∧ Q e ∧ y = nI e
set_option maxHeartbeats 1000000 in
theorem v_M_entry (fu : Nat) (hfu : 12000 ≤ fu) (z gI gO gT uO uN ch uI : Nat → Int32) {n1 : Nat} (hn1 : n1 < 2 ^ 30) {h1 : Nat → Int32} {a : Nat} (ha : a + 32 ≤ n1) (hh : ∀ j, j < 32 → fits .byte (.int (h1 (a + j))) = true) {N : Nat} (hN : N ≤ 11600) {idE : Nat → Nat → Int32} {jE oE tE bE : Nat → Nat} (hE : enE N idE jE oE tE bE gI gO gT uO uI) (hC : chP N (plE idE jE) uN ch) {x3 : Nat} (hx3 : x3 < 2 ^ 32) : ok (x_M_entry fu z gI gO gT uO uN ch uI n1 h1 (nI a) (nI x3)) (enQ2 N uI (kyE idE jE h1 a x3)) := by
  unfold x_M_entry
  rw [m_small fu n1 (by omega) h1 (o := a) (by omega), bd1_q, v_M_placeOf, bd1_q]
  have hp := plc_lt (nI (leP h1 a 4)) (nI x3)
  obtain ⟨L, l1, l2, l3, l4⟩ := hC _ hp
  refine ok_gd (inb_nI hp (by decide)) ?_
  rw [nI_clamp (n := plc (nI (leP h1 a 4)) (nI x3)) (by omega)]
  refine ok_bnd (ok_mono (l_en17 fu (by omega) z gI gO gT uO uN ch uI hn1 ha hh hE hx3 L fu _ (by omega) l1 l3) fun y hy => ?_)
  rcases hy with ⟨y1, y2⟩ | ⟨e, y1, y2, y3, y4⟩
  · refine Or.inl ⟨y1, fun e he h1e hk => y2 e (l2 e he ?_) h1e hk⟩
    unfold plE
    rw [hk.2]
    have : leP (idE e) 0 4 = leP h1 a 4 := by
      have k0 := hk.1
      refine Eq.trans (b := leL (bl (idE e) 0 4)) (leL_bl _ 4 0).symm (Eq.trans ?_ (leL_bl _ 4 a))
      rw [← bl_take (idE e) 4 32 0 (by decide), k0, bl_take h1 4 32 a (by decide)]
    rw [this]
  · exact Or.inr ⟨e, l3 e y1, y2, y3, y4⟩
