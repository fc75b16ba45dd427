-- what holds under other addresses of other keys; a coin and a block are made
set_option maxHeartbeats 400000 in
theorem sgC_q {q q' : Nat → Nat} (h : ∀ j, j < 102 ∧ j ≠ 29 → q' j = q j) {cy : Nat → ClassId} {n1 : Nat} {R : Nat → Nat → Option Nat} {L : Nat → Nat → Int64} {B : Nat → Nat → Int32} {k : Nat} (hk : k < 102) : sgC q' cy n1 R L B k = sgC q cy n1 R L B k := by
  by_cases g : k % 4 = 2 ∧ 30 ≤ k
  · rw [sgC_P g.2 hk g.1, sgC_P g.2 hk g.1, h _ (by omega), h _ (by omega), h _ (by omega)]
  · unfold sgC
    rw [h 1 (by decide), h 8 (by decide), h 9 (by decide), h 10 (by decide), h 11 (by decide), h 12 (by decide), h 3 (by decide), h 6 (by decide), h 7 (by decide), h 4 (by decide), h 5 (by decide), h 94 (by decide), h 98 (by decide), h 2 (by decide), h 17 (by decide), h 18 (by decide), h 19 (by decide), h 20 (by decide), h 21 (by decide), h 22 (by decide)]
    by_cases z : k < 30
    · by_cases z2 : k < 18
      · rw [if_pos z2, if_pos z2]
      · rw [if_pos z, if_pos z]
    · rw [if_neg (show ¬ k % 4 = 2 by omega), if_neg (show ¬ k % 4 = 2 by omega)]
set_option maxHeartbeats 400000 in
theorem sgQ_q {q q' : Nat → Nat} (h : ∀ j, j < 102 ∧ j ≠ 29 → q' j = q j) {R : Nat → Nat → Option Nat} (H : sgQ q R) : sgQ q' R := ⟨fun i hi => by rw [h _ (by omega)]; exact H.1 i hi, fun i hi => by rw [h _ (by omega)]; exact H.2.1 i hi, fun i hi => by rw [h _ (by omega)]; exact H.2.2.1 i hi, fun i hi => by rw [h _ (by omega)]; exact H.2.2.2 i hi⟩
set_option maxHeartbeats 400000 in
theorem maO_q {q q' : Nat → Nat} (h : ∀ j, j < 138 ∧ j ≠ 29 ∧ j ≠ 137 ∧ j ≠ 135 → q' j = q j) (a b d e f g : Int32) (ly : Value) (tx inn : Int32) (co : Value) (mit : Int32) : maO q' a b d e f g ly tx inn co mit = maO q a b d e f g ly tx inn co mit := by
  unfold maO
  rw [h 106 (by decide), h 0 (by decide), h 111 (by decide), h 102 (by decide), h 116 (by decide), h 117 (by decide), h 118 (by decide), h 119 (by decide)]
set_option maxHeartbeats 400000 in
theorem maR_q {F : Type} [Lean.Grind.Field F] [DecidableEq F] {c : Int → F} {C C' : Nat → va_E} {q q' : Nat → Nat} {cy : Nat → ClassId} {h oh op i1 i2 fr : Int32} {ly : Value} {tx inn : Int32} {co : Value} {mit : Int32} {D m o tk : Nat → Int32} (H : maR c C q cy h oh op i1 i2 fr ly tx inn co mit D m o tk) (e : ∀ k, k < 138 ∧ k ≠ 29 ∧ k ≠ 137 ∧ k ≠ 135 → C' k = C k ∧ q' k = q k) : maR c C' q' cy h oh op i1 i2 fr ly tx inn co mit D m o tk := by
  obtain ⟨⟨a1, a2, a3, a4, a5⟩, hs, ⟨r0, r1, r2, r3, r4, t1, t2, t3, t4⟩, ⟨R, L, B, v1, v2, v3⟩⟩ := H
  refine ⟨⟨(e 110 (by decide)).1.trans (a1.trans (maO_q (fun j hj => (e j hj).2) _ _ _ _ _ _ _ _ _ _ _).symm), (e 102 (by decide)).1.trans a2, (e 117 (by decide)).1.trans a3, (e 118 (by decide)).1.trans a4, (e 119 (by decide)).1.trans a5⟩, shX_q hs (fun k k1 k2 => e k (by omega)), ⟨(e 111 (by decide)).1.trans (r0.trans ?_), r1, r2, r3, r4, (e 112 (by decide)).1.trans t1, (e 113 (by decide)).1.trans t2, (e 114 (by decide)).1.trans t3, (e 115 (by decide)).1.trans t4⟩, ⟨R, L, B, fun k hk => (e k (by omega)).1.trans ((v1 k hk).trans (sgC_q (fun j hj => (e j (by omega)).2) hk.1).symm), sgQ_q (fun j hj => (e j (by omega)).2) v2, v3⟩⟩
  rw [(e 112 (by decide)).2, (e 113 (by decide)).2, (e 114 (by decide)).2, (e 115 (by decide)).2]
set_option maxHeartbeats 400000 in
theorem alR_q {P P' : Nat → Prop} {q q' : Nat → Nat} {C C' : Nat → va_E} {cy : Nat → ClassId} {kl ka : Nat} {E : List Nat} {cap : Nat} (h : alR P q C cy kl ka E cap) (hp : P' kl ∧ (P' ka ↔ P ka)) (e135 : q' 135 = q 135) (eka : P ka → q' ka = q ka) (eE : ∀ j, j ∈ E → q' j = q j) (e1 : C' kl = C kl) (e2 : P ka → C' ka = C ka) : alR P' q' C' cy kl ka E cap := by
  obtain ⟨p0, mc, h⟩ := h
  refine ⟨hp.1, mc, ?_⟩
  rcases h with ⟨a1, a2, a3, a4⟩ | ⟨a1, a2, a3, a4, a5, f, a6, a7⟩
  · exact Or.inl ⟨a1, a2, fun z => a3 (hp.2.mp z), by rw [e1, e135]; exact a4⟩
  · refine Or.inr ⟨hp.2.mpr a1, a2, a3, ⟨a4.1, by rw [eka a1, e135]; exact a4.2⟩, by rw [e1, eka a1]; exact a5, f, (e2 a1).trans a6, fun i hi => ?_⟩
    rw [eE _ ?_]
    · exact a7 i hi
    · rw [List.getD_eq_getElem?_getD, List.getElem?_eq_getElem hi]
      exact List.getElem_mem hi
set_option maxHeartbeats 400000 in
theorem gD3 (L : List In3) {j : Nat} (h : j < L.length) : L[j] = L.getD j d3 := by
  rw [List.getD_eq_getElem?_getD, List.getElem?_eq_getElem h]
  rfl
set_option maxHeartbeats 400000 in
theorem coin_at : ∀ (TL : List Tx5) (o : Nat), o < nOut TL → ∃ t j, t < TL.length ∧ j < (TL.getD t d5).2.2.2.1.length ∧ nOut (TL.take t) + j = o
  | [], o, h => absurd h (Nat.not_lt_zero _)
  | T :: TL, o, h => by
    replace h : o < T.2.2.2.1.length + nOut TL := h
    by_cases g : o < T.2.2.2.1.length
    · exact ⟨0, o, Nat.succ_pos _, g, Nat.zero_add _⟩
    · obtain ⟨t, j, h1, h2, h3⟩ := coin_at TL (o - T.2.2.2.1.length) (by omega)
      refine ⟨t + 1, j, Nat.succ_lt_succ h1, h2, ?_⟩
      show T.2.2.2.1.length + nOut (TL.take t) + j = o
      omega
set_option maxHeartbeats 400000 in
theorem blO_q {q q' : Nat → Nat} {par hgt tim : Nat → Nat} {bit : Nat → Int32} {b : Nat} (h0 : 0 < b → q' (kB (par b)) = q (kB (par b))) (h1 : q' (kB b + 1) = q (kB b + 1)) (h2 : q' (kB b + 2) = q (kB b + 2)) (h3 : q' (kB b + 3) = q (kB b + 3)) (h4 : 0 < b → q' (kB b + 4) = q (kB b + 4)) (bad vl : Bool) (mk : Nat) : blO q' par hgt tim bit b bad vl mk = blO q par hgt tim bit b bad vl mk := by
  unfold blO
  rw [h1, h2, h3]
  by_cases g : b = 0
  · rw [if_pos g, if_pos g, if_pos g, if_pos g]
  · rw [if_neg g, if_neg g, if_neg g, if_neg g, h0 (by omega), h4 (by omega)]
set_option maxHeartbeats 400000 in
theorem bkR_q {P P' : Nat → Prop} {q q' : Nat → Nat} {C C' : Nat → va_E} {cy : Nat → ClassId} {nb : Nat} {par hgt tim : Nat → Nat} {bit : Nat → Int32} {bad : Nat → Bool} {rw : Nat → List Int32} {vl : Nat → Bool} {mk : Nat → Nat} {sl : Cn → Int32} (hB : bkR P q C cy nb par hgt tim bit bad rw vl mk sl) (hp : ∀ k, 0 < k → par k < k) (e : ∀ k, 256 ≤ k → P k → P' k ∧ q' k = q k ∧ C' k = C k) : bkR P' q' C' cy nb par hgt tim bit bad rw vl mk sl := by
  have h256 : ∀ b, 256 ≤ kB b := fun b => by unfold kB; omega
  refine ⟨fun b hb => ?_, fun c hc => ?_⟩
  · obtain ⟨⟨p0, p1, p2, p3, p4⟩, c0, c1, ⟨g, c2, c2'⟩, ⟨n, g3, c3, c3'⟩, c4⟩ := hB.1 b hb
    have hk := h256 b
    have e0 := e _ hk p0
    have e1 := e _ (by omega) p1
    have e2 := e _ (by omega) p2
    have e3 := e _ (by omega) p3
    refine ⟨⟨e0.1, e1.1, e2.1, e3.1, fun h => (e _ (by omega) (p4 h)).1⟩, e0.2.2.trans (c0.trans (blO_q (fun h => ?_) e1.2.1 e2.2.1 e3.2.1 (fun h => (e _ (by omega) (p4 h)).2.1) _ _ _).symm), e1.2.2.trans c1, ⟨g, e2.2.2.trans c2, c2'⟩, ⟨n, g3, e3.2.2.trans c3, c3'⟩, fun h0 => ?_⟩
    · have := hp b h
      exact (e _ (h256 _) (hB.1 (par b) (by omega)).1.1).2.1
    · obtain ⟨f, f1, f2⟩ := c4 h0
      refine ⟨f, (e _ (by omega) (p4 h0)).2.2.trans f1, fun o ho => ?_⟩
      obtain ⟨t, j, ht, hj, ho'⟩ := coin_at (TLb rw b) o ho
      have pc := (hB.2 (b, t, j) ⟨⟨hb, ht⟩, hj⟩).1
      have ec : ck rw (b, t, j) = kB b + 8 + o := congrArg (fun z => kB b + 8 + z) ho'
      rw [ec] at pc
      rw [f2 o ho, (e _ (by omega) pc).2.1]
  · obtain ⟨pc, cc⟩ := hB.2 c hc
    have ec := e _ (by unfold ck kB; omega) pc
    have e0 := e _ (h256 c.1) (hB.1 c.1 hc.1.1).1.1
    refine ⟨ec.1, ec.2.2.trans (cc.trans ?_)⟩
    unfold coO
    rw [e0.2.1]
set_option maxHeartbeats 400000 in
theorem g_ptU {P : Nat → Prop} {q : Nat → Nat} {C : Nat → va_E} {M : Mm} {K : Mm → Prop} {k ci i : Nat} {fs : List Value} {v : Value} (hM : RG P q (va_up C k (.inr (ci, fs))) M) (hq : IJ P q) (hk : P k) (hi : i < fs.length) (hK : ∀ M', RG P q (va_up C k (.inr (ci, fs.set i v))) M' → K M') : mpt M (q k) ci i v K := g_pt hM hq hk up_e hi (fun M' hM' => hK M' (RG_c hM' (fun j _ => by
  by_cases e : j = k
  · rw [e, up_e, up_e]
  · rw [up_n e, up_n e, up_n e])))
set_option maxHeartbeats 1000000 in
theorem w_Val (fu : Nat) {cy : Nat → ClassId} {P : Nat → Prop} {q : Nat → Nat} {C : Nat → va_E} {M : Mm} (hM : RG P q C M) (hq : IJ P q) (hP : ∀ k, k < 138 ∧ k ≠ 29 ∧ k ≠ 137 ∧ k ≠ 135 → P k) {ks nr E o a : Nat} {TL : List Tx5} {u3 u4 u5 u6 u7 u8 u9 u10 u11 : Nat → Int32} (hl : lyR C q cy (.ref (q ks)) E TL u3 u4 u5 u6 u7 u8 u9 u10 u11) (hks : P ks) (hk : ks < 120 ∨ 129 < ks) {g : Nat → Int32} (eks : C ks = .inl (cy 0, nr, .inl g)) (hn : nr < 2 ^ 30) (ho : o < 333) (hu : u9 o = nI a) (ha : a + 8 ≤ nr) (K : Int64 → Mm → Prop) (hK : ∀ M', RG P q C M' → K (lN (leP g a 8)) M') : ∃ (b18 : Value) (b19 : Value) (b20 : Value) (b21 : Value) (b22 : Value) (b23 : Value) (b24 : Value) (b25 : Value) (b26 : Nat) (b27 : Nat) (c28 : Int32) (c29 : Int32) (c30 : Int32) (c31 : Int32) (c32 : Int32) (c33 : Nat) (c34 : Nat → Int32) (c35 : Nat → Int32), mal M [((q 120), .inr (4, [.ref b26, .int c28, b18, b19, b20, b21, b22, b23, .ref b27, b24, b25, .int c29, .int c30, .int c31, .int c32])), (b26, .inl (cy 0, c33, .inl c34)), (b27, .inl (cy 1, 333, .inl c35))] ∧ mnd (List.map (fun x : Nat × va_E => x.1) [((q 120), .inr (4, [.ref b26, .int c28, b18, b19, b20, b21, b22, b23, .ref b27, b24, b25, .int c29, .int c30, .int c31, .int c32])), (b26, .inl (cy 0, c33, .inl c34)), (b27, .inl (cy 1, 333, .inl c35))]) ∧ ∃ (v36 : Int64), x_La_value fu c28 c29 c30 c31 c32 c33 c34 c35 (nI o) = some (v36) ∧ bnd (mov M [((q 120), .inr (4, [.ref b26, .int c28, b18, b19, b20, b21, b22, b23, .ref b27, b24, b25, .int c29, .int c30, .int c31, .int c32])), (b26, .inl (cy 0, c33, .inl c34)), (b27, .inl (cy 1, 333, .inl c35))]) fun M37 => K v36 M37 := by
  obtain ⟨⟨b0, a1, a2, a3, a4, a5, a6, a7, a8, a9⟩, hL⟩ := hl
  have he := v_La_value fu (nI TL.length) (nI E) (nI E) (nI (nIn TL)) (nI (nOut TL)) nr hn g u9 ho hu ha
  have hin : ∀ k, k ∈ [120, ks, 127] → P k := fun k hk => by
    simp only [List.mem_cons, List.not_mem_nil, or_false] at hk
    rcases hk with e | e | e
    · exact hP _ (by omega)
    · rw [e]; exact hks
    · exact hP _ (by omega)
  refine ⟨_, _, _, _, _, _, _, _, _, _, _, _, _, _, _, _, _, _, mal_c (g_at hM (hP 120 (by decide)) b0) (mal_c (g_at hM hks eks) (mal_c (g_at hM (hP 127 (by decide)) a7) (mal_n _))), gnd hq [120, ks, 127] hin ?_, _, he, ?_⟩
  · simp only [List.nodup_cons, List.mem_cons, List.not_mem_nil, not_false_eq_true, List.nodup_nil, and_true, or_false]
    omega
  · have L := g_lf (K := K (lN (leP g a 8))) hM hq C [120, ks, 127] hin (fun k _ _ => rfl) (fun M' hM' => hK M' hM')
    rw [show [120, ks, 127].map (fun k => (q k, C k)) = [(q 120, C 120), (q ks, C ks), (q 127, C 127)] from rfl, b0, eks, a7] at L
    exact L
/-- a coin as it is made -/
def coN (q : Nat → Nat) (kb : Nat) (gI g : Nat → Int32) (t j : Nat) (O : In3) : va_E := .inr (2, [.ref (q kb), .int (nI (32 * t)), .int (nI (leP gI (32 * t) 4)), .int (nI j), .long (lN (leP g O.1 8)), .int (if t = 0 then 1 else 0), .int (nI (O.1 + 8)), .int (nI O.2.1), .int (nI (O.2.1 + O.2.2)), .int (-1)])
set_option maxHeartbeats 2000000 in
theorem w_Coin (fu MC MS : Nat) (cy : Nat → ClassId) (ad : Nat → Nat) (mi : Nat) {P : Nat → Prop} {q : Nat → Nat} {C : Nat → va_E} {M : Mm} {kc : Nat} (hM : RG P q (va_up C kc (.inr (2, [.null, .int 0, .int 0, .int 0, .long 0, .int 0, .int 0, .int 0, .int 0, .int 0]))) M) (hq : IJ P q) (hP : ∀ k, k < 138 ∧ k ≠ 29 ∧ k ≠ 137 ∧ k ≠ 135 → P k) {kb ki ks n nI' E a0 : Nat} {TL : List Tx5} {u3 u4 u5 u6 u7 u8 u9 u10 u11 : Nat → Int32} (hkc : P kc ∧ 138 ≤ kc) (hkb : P kb ∧ kb ≠ kc) (hki : P ki ∧ ki ≠ kc) (hks : P ks ∧ ks ≠ kc ∧ (ks < 120 ∨ 129 < ks)) {fs : List Value} (eb : C kb = .inr (1, fs)) (ef : fs[3]? = some (.ref (q ki))) {gI g : Nat → Int32} (ei : C ki = .inl (cy 0, nI', .inl gI)) (hni : nI' < 2 ^ 30) (eks : C ks = .inl (cy 0, n, .inl g)) (hn : n < 2 ^ 30) (hE3 : E ≤ n ∧ E ≤ 3000) (hl : lyR C q cy (.ref (q ks)) E TL u3 u4 u5 u6 u7 u8 u9 u10 u11) (hT : txB E TL a0) {t j : Nat} (ht : t < TL.length) (hj : j < (TL.getD t d5).2.2.2.1.length) (hti : 32 * t + 4 ≤ nI') {κ σ : Nat} {Φ : Mm → Prop} (hΦ : ∀ M', RG P q (va_up C kc (coN q kb gI g t j ((TL.getD t d5).2.2.2.1.getD j d3))) M' → Φ M') : xw_mCo_init fu MC MS cy ad mi Φ κ σ M (q kc) (q kb) (nI t) (nI (nOut (TL.take t) + j)) (q 120) := by
  have hnn := txB_n TL a0 hT
  have hm1 := nOut_m2 TL (t := t + 1) (t' := TL.length) (by omega)
  rw [List.take_length, nOut_tk TL t ht] at hm1
  obtain ⟨⟨b0, a1, a2, a3, a4, a5, a6, a7, a8, a9⟩, hL⟩ := hl
  obtain ⟨⟨x1, x2, x3, x4, x5, x6⟩, y1, y2⟩ := laH_x TL 0 0 0 hL t ht
  rw [Nat.zero_add] at x5 y2
  rw [Nat.zero_add] at x5
  obtain ⟨z1, z2, z3⟩ := y2 j hj
  have eO : (TL.getD t d5).2.2.2.1[j] = (TL.getD t d5).2.2.2.1.getD j d3 := gD3 _ hj
  rw [eO] at z1 z2 z3
  have hO : ((TL.getD t d5).2.2.2.1.getD j d3).1 + 8 ≤ E := by
    have := (txB_at TL a0 hT _ (gDm ht)).2.1 ((TL.getD t d5).2.2.2.1.getD j d3) (by rw [← eO]; exact List.getElem_mem hj)
    omega
  generalize (TL.getD t d5).2.2.2.1.getD j d3 = O at *
  obtain ⟨o, ho⟩ : ∃ o, o = nOut (TL.take t) + j := ⟨_, rfl⟩
  rw [← ho] at z1 z2 z3 ⊢
  have co : ∀ {x : va_E} {k}, k ≠ kc → va_up C kc x k = C k := fun h => up_n h
  have clo : (nI o).toNatClampNeg = o := nI_clamp (n := o) (by omega)
  unfold xw_mCo_init
  refine g_ptU hM hq hkc.1 (show 9 < 10 by decide) (fun M1 hM1 => ?_)
  refine g_ptU hM1 hq hkc.1 (show 0 < 10 by decide) (fun M2 hM2 => m_bn (e' := nI (32 * t)) (pk_mul 32 t) ?_)
  refine g_ptU hM2 hq hkc.1 (show 1 < 10 by decide) (fun M3 hM3 => ?_)
  refine m_gr (g_at hM3 hkb.1 ((co hkb.2).trans eb)) ef (m_gi (g_at hM3 hkc.1 up_e) rfl ?_)
  refine w_Word fu hM3 hq hki.1 ((co hki.2).trans ei) (by omega) hti _ (fun M4 hM4 => ?_)
  refine g_ptU hM4 hq hkc.1 (show 2 < 10 by decide) (fun M5 hM5 => ?_)
  refine m_gr (g_at hM5 (hP 120 (by decide)) ((co (by omega)).trans b0)) rfl (m_ai (g_at hM5 (hP 123 (by decide)) ((co (by omega)).trans a3)) (inb_nI (by omega) (by decide)) ?_)
  rw [nI_clamp (n := t) (by omega), x5]
  refine m_bn (e' := nI j) (by rw [nI_sb (by omega), ho, Nat.add_sub_cancel_left]) (g_ptU hM5 hq hkc.1 (show 3 < 10 by decide) (fun M6 hM6 => ?_))
  refine w_Val fu hM6 hq hP (lyR_c ⟨⟨b0, a1, a2, a3, a4, a5, a6, a7, a8, a9⟩, hL⟩ (fun k k1 k2 => co (by omega))) hks.1 hks.2.2 ((co hks.2.1).trans eks) hn (o := o) (by omega) z1 (by omega) _ (fun M7 hM7 => ?_)
  refine g_ptU hM7 hq hkc.1 (show 4 < 10 by decide) (fun M8 hM8 => ?_)
  have FIN : ∀ y0 : Int32, isb y0 = true → y0 = (if t = 0 then 1 else 0) → xv_mCo_init_70 fu MC MS cy ad mi Φ κ σ M8 (q kc) (nI o) (q 120) y0 (q kc) := by
    intro y0 hy hy2
    unfold xv_mCo_init_70
    refine ⟨hy, g_ptU hM8 hq hkc.1 (show 5 < 10 by decide) (fun M9 hM9 => ?_)⟩
    refine m_gr (g_at hM9 (hP 120 (by decide)) ((co (by omega)).trans b0)) rfl (m_ai (g_at hM9 (hP 127 (by decide)) ((co (by omega)).trans a7)) (inb_nI (by omega) (by decide)) ?_)
    rw [clo, z1]
    refine m_bn (e' := nI (O.1 + 8)) (nI_add _ 8) (g_ptU hM9 hq hkc.1 (show 6 < 10 by decide) (fun M10 hM10 => ?_))
    refine m_gr (g_at hM10 (hP 120 (by decide)) ((co (by omega)).trans b0)) rfl (m_ai (g_at hM10 (hP 128 (by decide)) ((co (by omega)).trans a8)) (inb_nI (by omega) (by decide)) ?_)
    rw [clo, z2]
    refine g_ptU hM10 hq hkc.1 (show 7 < 10 by decide) (fun M11 hM11 => ?_)
    refine m_gr (g_at hM11 (hP 120 (by decide)) ((co (by omega)).trans b0)) rfl (m_ai (g_at hM11 (hP 129 (by decide)) ((co (by omega)).trans a9)) (inb_nI (by omega) (by decide)) ?_)
    rw [clo, z3]
    refine g_ptU hM11 hq hkc.1 (show 8 < 10 by decide) (fun M12 hM12 => hΦ M12 ?_)
    rw [hy2] at hM12
    exact hM12
  by_cases g0 : t = 0
  · rw [g0]
    exact m_t rfl (FIN 1 rfl (by rw [if_pos g0]))
  · exact m_f (fun z => g0 ((nI_eq32 (a := t) (b := 0) (by omega) (by omega)).mp z)) (FIN 0 rfl (by rw [if_neg g0]))
set_option maxHeartbeats 2000000 in
theorem w_Blk (fu MC MS : Nat) (cy : Nat → ClassId) (ad : Nat → Nat) (mi : Nat) (hfu : 9 ≤ fu) {P : Nat → Prop} {q : Nat → Nat} {C : Nat → va_E} {M : Mm} {kb : Nat} (hM : RG P q (va_up C kb (.inr (1, [.null, .null, .null, .null, .int 0, .long 0, .int 0, .long 0, .null, .int 0, .int 0, .int 0]))) M) (hq : IJ P q) {kp kr kd ke n hp wp : Nat} (hkb : P kb) (hkp : P kp ∧ kp ≠ kb) (hkr : P kr ∧ kr ≠ kb) {fs : List Value} (ep : C kp = .inr (1, fs)) (e4 : fs[4]? = some (.int (nI hp))) (e7 : fs[7]? = some (.long (lN wp))) {g : Nat → Int32} (er : C kr = .inl (cy 0, n, .inl g)) (hn : 80 ≤ n ∧ n < 2 ^ 30) {e m : Nat} (hb : gb (nI (leP g 72 4)) e m) {κ σ : Nat} {Φ : Mm → Prop} (hΦ : ∀ M', RG P q (va_up C kb (.inr (1, [.ref (q kp), .ref (q kr), .ref (q kd), .ref (q ke), .int (nI (hp + 1)), .long (lN (leP g 68 4)), .int (nI (leP g 72 4)), .long (lN (Wk e m + wp)), .null, .int 0, .int 0, .int 0]))) M' → Φ M') : xw_mBl_init fu MC MS cy ad mi Φ κ σ M (q kb) (q kp) (q kr) (q kd) (q ke) := by
  unfold xw_mBl_init
  refine g_ptU hM hq hkb (show 0 < 12 by decide) (fun M1 hM1 => ?_)
  refine g_ptU hM1 hq hkb (show 1 < 12 by decide) (fun M2 hM2 => ?_)
  refine g_ptU hM2 hq hkb (show 2 < 12 by decide) (fun M3 hM3 => ?_)
  refine g_ptU hM3 hq hkb (show 3 < 12 by decide) (fun M4 hM4 => ?_)
  unfold xv_mBl_init_34
  refine m_t rfl (m_gi (g_at hM4 hkp.1 ((up_n hkp.2).trans ep)) e4 ?_)
  unfold xv_mBl_init_52
  rw [show nI hp + 1 = nI (hp + 1) from nI_add hp 1]
  refine g_ptU hM4 hq hkb (show 4 < 12 by decide) (fun M5 hM5 => m_t rfl ?_)
  refine w_Word fu hM5 hq hkr.1 ((up_n hkr.2).trans er) (by omega) (o := 68) (by omega) _ (fun M6 hM6 => m_b ?_)
  rw [l_mask, U_nI (leP_lt _ _ 4)]
  unfold xv_mBl_init_78
  refine g_ptU hM6 hq hkb (show 5 < 12 by decide) (fun M7 hM7 => m_t rfl ?_)
  refine w_Word fu hM7 hq hkr.1 ((up_n hkr.2).trans er) (by omega) (o := 72) (by omega) _ (fun M8 hM8 => ?_)
  unfold xv_mBl_init_98
  refine g_ptU hM8 hq hkb (show 6 < 12 by decide) (fun M9 hM9 => m_gi (g_at hM9 hkb up_e) rfl ⟨mal_n _, trivial, _, v_workOf fu hfu hb, ?_⟩)
  refine g_lf hM9 hq _ [] (fun k hk => absurd hk List.not_mem_nil) (fun k _ _ => rfl) (fun M10 hM10 => m_t rfl (m_gj (g_at hM10 hkp.1 ((up_n hkp.2).trans ep)) e7 ?_))
  unfold xv_mBl_init_122
  exact m_bn (e' := lN (Wk e m + wp)) (lN_a _ _) (g_ptU hM10 hq hkb (show 7 < 12 by decide) (fun M11 hM11 => hΦ M11 hM11))
