-- the reference's isSound is sndS
def at0 (B : Nat) (st : Nat → Int32) : Nat → Int32 := fun i => st (B + i)
def sh3 (B : Nat) (x : In3) : In3 := (B + x.1, B + x.2.1, x.2.2)
def shT (B : Nat) (T : Tx5) : Tx5 := (B + T.1, T.2.1.map (sh3 B), B + T.2.2.1, T.2.2.2.1.map (sh3 B), B + T.2.2.2.2)
set_option maxHeartbeats 400000 in
theorem bl_b (st : Nat → Int32) (B : Nat) : ∀ n a, bl st (B + a) n = bl (at0 B st) a n
  | 0, a => rfl
  | n + 1, a => by
    rw [bl_s, bl_s, ← bl_b st B n (a + 1)]
    rfl
set_option maxHeartbeats 400000 in
theorem leP_b (st : Nat → Int32) (B a : Nat) : ∀ n, leP st (B + a) n = leP (at0 B st) a n
  | 0 => rfl
  | n + 1 => by
    show leP st (B + a) n + By (st (B + a + n)) * 2 ^ (8 * n) = leP (at0 B st) a n + By (st (B + (a + n))) * 2 ^ (8 * n)
    rw [leP_b st B a n, Nat.add_assoc]
/-- the reference's arrays hold these transactions (places are the store's own) -/
def rfH (st : Nat → Int32) (v1 v2 v3 v4 v5 v6 v7 v8 v9 v10 v11 v12 v13 : Nat → Int32) (v14 : Nat → Int64) (v15 v16 v17 v22 : Nat → Int32) : List Tx5 → Nat → Nat → Nat → Prop
  | [], _, _, _ => True
  | T :: TL, t, i, o => okT st T.1 t i o T.2.1 T.2.2.1 T.2.2.2.1 T.2.2.2.2 v1 v2 v3 v4 v5 v6 v7 v8 v9 v10 v11 v12 v13 v14 v15 v16 v17 v22 ∧ rfH st v1 v2 v3 v4 v5 v6 v7 v8 v9 v10 v11 v12 v13 v14 v15 v16 v17 v22 TL (t + 1) (i + T.2.1.length) (o + T.2.2.2.1.length)
def tS1 (b : Prop) (T : TxV) (h tm : Nat) : Prop := txS b T h tm ∧ leS T ∧ (b → hgQ (T.1.getD 0 e_I).2.1 h)
def snR (h tm : Nat) : List TxV → Prop → Nat → Prop
  | [], _, c => c ≤ 40
  | T :: V, b, c => tS1 b T h tm ∧ snR h tm V False (c + sgX T)
set_option maxHeartbeats 400000 in
theorem hin_g {st v9 v10 v11 v12 v13 : Nat → Int32} {i B : Nat} {I : List In3} (h : hin st v9 v10 v11 v12 v13 i (I.map (sh3 B))) {j : Nat} (hj : j < I.length) : v9 (i + j) = nI (B + (I.getD j d3).1) ∧ v10 (i + j) = nI (B + (I.getD j d3).2.1) ∧ v11 (i + j) = nI (I.getD j d3).2.2 ∧ v12 (i + j) = nI (leP (at0 B st) ((I.getD j d3).2.1 + (I.getD j d3).2.2) 4) ∧ v13 (i + j) = 0 := by
  have := h j (by rw [List.length_map]; exact hj)
  rw [List.getElem_map, ← gD_e I d3 hj] at this
  rw [← leP_b]
  replace this : v9 (i + j) = nI (B + (I.getD j d3).1) ∧ v10 (i + j) = nI (B + (I.getD j d3).2.1) ∧ v11 (i + j) = nI (I.getD j d3).2.2 ∧ v12 (i + j) = nI (leP st (B + (I.getD j d3).2.1 + (I.getD j d3).2.2) 4) ∧ v13 (i + j) = 0 := this
  rw [Nat.add_assoc] at this
  exact this
set_option maxHeartbeats 400000 in
theorem hout_g {st : Nat → Int32} {v14 : Nat → Int64} {v15 v16 v17 : Nat → Int32} {t o B : Nat} {O : List In3} (h : hout st v14 v15 v16 v17 t o (O.map (sh3 B))) {j : Nat} (hj : j < O.length) : v14 (o + j) = lN (leP (at0 B st) (O.getD j d3).1 8) ∧ v15 (o + j) = nI (B + (O.getD j d3).2.1) ∧ v16 (o + j) = nI (O.getD j d3).2.2 ∧ v17 (o + j) = nI t := by
  have := h j (by rw [List.length_map]; exact hj)
  rw [List.getElem_map, ← gD_e O d3 hj] at this
  rw [← leP_b]
  exact this
set_option maxHeartbeats 400000 in
theorem sgX_le {T : TxV} (h : leS T) : sgX T ≤ 20 * 1000 * (T.1.length + T.2.1.length) := by
  have A : ∀ {α : Type} (f : α → List Int32) (L : List α), (∀ x, x ∈ L → (f x).length ≤ 1000) → sumL (fun x => sgK (f x)) L ≤ 20 * 1000 * L.length := by
    intro α f L
    induction L with
    | nil => intro _; exact Nat.zero_le _
    | cons x L ih =>
      intro h
      have h1 := ih (fun y hy => h y (List.mem_cons_of_mem _ hy))
      have h2 : sgK (f x) ≤ 20 * 1000 := Nat.le_trans (sgK_le _) (Nat.mul_le_mul_left 20 (h x List.mem_cons_self))
      show sgK (f x) + sumL (fun x => sgK (f x)) L ≤ 20 * 1000 * (L.length + 1)
      rw [Nat.mul_succ]
      generalize sgK (f x) = A at *
      generalize sumL (fun x => sgK (f x)) L = B at *
      omega
  have a1 := A (fun i : InV => i.2.1) T.1 h.1
  have a2 := A (fun o : OutV => o.2) T.2.1 h.2
  unfold sgX
  rw [Nat.mul_add]
  exact Nat.add_le_add a1 a2
set_option maxHeartbeats 400000 in
theorem tQ_i {st : Nat → Int32} {B t t0 h tm : Nat} (T : Tx5) : tQ st t t0 (txV (at0 B st) T).1.length (txV (at0 B st) T).2.1.length (txV (at0 B st) T).2.2 h tm (fun k => ((txV (at0 B st) T).1.getD k e_I).1) (fun k => B + (T.2.1.getD k d3).2.1) (fun k => ((txV (at0 B st) T).1.getD k e_I).2.1.length) (fun k => ((txV (at0 B st) T).1.getD k e_I).2.2) (fun k => ((txV (at0 B st) T).2.1.getD k e_O).1) (fun k => ((txV (at0 B st) T).2.1.getD k e_O).2.length) ↔ tS1 (t = t0) (txV (at0 B st) T) h tm := by
  have eh : 0 < (txV (at0 B st) T).1.length → bl st (B + (T.2.1.getD 0 d3).2.1) ((txV (at0 B st) T).1.getD 0 e_I).2.1.length = ((txV (at0 B st) T).1.getD 0 e_I).2.1 := fun h0 => by
    have hl : 0 < T.2.1.length := by
      replace h0 : 0 < (T.2.1.map (inV (at0 B st))).length := h0
      rw [List.length_map] at h0
      exact h0
    have e : (txV (at0 B st) T).1.getD 0 e_I = inV (at0 B st) (T.2.1.getD 0 d3) := getD_map (inV (at0 B st)) d3 e_I T.2.1 hl
    rw [e, bl_b]
    show bl (at0 B st) (T.2.1.getD 0 d3).2.1 (bl (at0 B st) (T.2.1.getD 0 d3).2.1 (T.2.1.getD 0 d3).2.2).length = bl (at0 B st) (T.2.1.getD 0 d3).2.1 (T.2.1.getD 0 d3).2.2
    rw [bl_len]
  generalize txV (at0 B st) T = Tv at *
  have l1 := fa_l (fun i : InV => i.2.1.length ≤ 1000) e_I Tv.1
  have l2 := fa_l (fun o : OutV => o.2.length ≤ 1000) e_O Tv.2.1
  unfold tQ tS1 txS leS amS inS fiS enQ
  rw [← l1, ← l2]
  constructor
  · rintro ⟨⟨a1, a2⟩, ⟨a3, a4⟩, a5, a6, a7⟩
    refine ⟨⟨⟨a2, a3⟩, ⟨a1, fun k x y => (a5 k x y).1⟩, a7⟩, ⟨fun k x y => (a5 k x y).2, a4⟩, fun z => ?_⟩
    have := a6 z
    rw [eh a1] at this
    exact this
  · rintro ⟨⟨⟨a2, a3⟩, ⟨a1, a5⟩, a7⟩, ⟨a8, a4⟩, a6⟩
    refine ⟨⟨a1, a2⟩, ⟨a3, a4⟩, fun k x y => ⟨a5 k x y, a8 k x y⟩, fun z => ?_, a7⟩
    show hgQ (bl st (B + (T.2.1.getD 0 d3).2.1) (Tv.1.getD 0 e_I).2.1.length) h
    rw [eh a1]
    exact a6 z
set_option maxHeartbeats 400000 in
theorem l_s12 (fu : Nat) (hfu : 4000 ≤ fu) (st : Nat → Int32) (v1 v2 v3 v4 v5 v6 v7 v8 v9 v10 v11 v12 v13 : Nat → Int32) (v14 : Nat → Int64) (v15 v16 v17 v22 : Nat → Int32) (hst : ftB st) {B E t0 m h tm : Nat} (hBE : B + E ≤ 103000) (hE : E ≤ 3000) (hm2 : t0 + m ≤ 2200) (ht0 : t0 < 2200) (hh : h < 128) (htm : tm < 2 ^ 32) {U0 : Nat → Int32} : ∀ TL t i o c n a u0 u1 u2, rfH st v1 v2 v3 v4 v5 v6 v7 v8 v9 v10 v11 v12 v13 v14 v15 v16 v17 v22 (TL.map (shT B)) t i o → txB E TL a → t + TL.length = t0 + m → TL.length < n → i + nIn TL ≤ 2600 → o + nOut TL ≤ 11600 → c + 20 * 1000 * (nIn TL + nOut TL) < 2 ^ 30 → i9 U0 u0 u1 → t0 ≤ t → ok (x_M_isSound_12 fu st v4 v5 v6 v7 v8 v9 v10 v11 v12 v14 v15 v16 n (nI t0) (nI m) (nI h) (nI tm) (nI c) (nI t) u0 u1 u2) (sQ U0 (snR h tm (TL.map (txV (at0 B st))) (t = t0) c)) := by
  intro TL
  induction TL with
  | nil =>
    intro t i o c n a u0 u1 u2 hr hb ht hn hi ho hc h9 htt
    obtain ⟨n, rfl⟩ : ∃ m, n = m + 1 := ⟨n - 1, by omega⟩
    show ok (xb_M_isSound_12 fu st v4 v5 v6 v7 v8 v9 v10 v11 v12 v14 v15 v16 (x_M_isSound_12 fu st v4 v5 v6 v7 v8 v9 v10 v11 v12 v14 v15 v16 n) (nI t0) (nI m) (nI h) (nI tm) (nI c) (nI t) u0 u1 u2) _
    unfold xb_M_isSound_12
    replace ht : t + 0 = t0 + m := ht
    replace hc : c + 20 * 1000 * (0 + 0) < 2 ^ 30 := hc
    refine ok_t (by rw [nI_add]; exact (nI_leI (by omega) (by omega)).mpr (by omega)) ?_
    rw [show (40 : Int32) = nI 40 from rfl]
    by_cases q : 40 < c
    · exact ok_t ((nI_ltI (by omega) (by omega)).mpr q) (ok_some ⟨tf_0 fun e => by have : c ≤ 40 := e; omega, h9⟩)
    · exact ok_f (fun e => q ((nI_ltI (by omega) (by omega)).mp e)) (ok_some ⟨tf_1 (show c ≤ 40 by omega), h9⟩)
  | cons T TL ih =>
    intro t i o c n a u0 u1 u2 hr hb ht hn hi ho hc h9 htt
    obtain ⟨n, rfl⟩ : ∃ m, n = m + 1 := ⟨n - 1, by omega⟩
    show ok (xb_M_isSound_12 fu st v4 v5 v6 v7 v8 v9 v10 v11 v12 v14 v15 v16 (x_M_isSound_12 fu st v4 v5 v6 v7 v8 v9 v10 v11 v12 v14 v15 v16 n) (nI t0) (nI m) (nI h) (nI tm) (nI c) (nI t) u0 u1 u2) _
    obtain ⟨⟨⟨r1, r2, r3, r4, r5, r6, r7, r8, r9⟩, hI, hO⟩, hr⟩ := hr
    obtain ⟨b1, b2, b3, b4, b5, b6⟩ := hb
    replace ht : t + (TL.length + 1) = t0 + m := ht
    replace hn : TL.length + 1 < n + 1 := hn
    replace hi : i + (T.2.1.length + nIn TL) ≤ 2600 := hi
    replace ho : o + (T.2.2.2.1.length + nOut TL) ≤ 11600 := ho
    replace hc : c + 20 * 1000 * ((T.2.1.length + nIn TL) + (T.2.2.2.1.length + nOut TL)) < 2 ^ 30 := hc
    replace hI : hin st v9 v10 v11 v12 v13 i (T.2.1.map (sh3 B)) := hI
    replace hO : hout st v14 v15 v16 v17 t o (T.2.2.2.1.map (sh3 B)) := hO
    replace r5 : v5 t = nI (T.2.1.map (sh3 B)).length := r5
    replace r7 : v7 t = nI (T.2.2.2.1.map (sh3 B)).length := r7
    replace r8 : v8 t = nI (leP st (B + T.2.2.2.2 - 4) 4) := r8
    replace hr : rfH st v1 v2 v3 v4 v5 v6 v7 v8 v9 v10 v11 v12 v13 v14 v15 v16 v17 v22 (TL.map (shT B)) (t + 1) (i + (T.2.1.map (sh3 B)).length) (o + (T.2.2.2.1.map (sh3 B)).length) := hr
    rw [List.length_map] at r5 r7
    rw [List.length_map, List.length_map] at hr
    have eI : (txV (at0 B st) T).1.length = T.2.1.length := List.length_map _
    have eO : (txV (at0 B st) T).2.1.length = T.2.2.2.1.length := List.length_map _
    have eL : (txV (at0 B st) T).2.2 = leP st (B + T.2.2.2.2 - 4) 4 := by
      rw [show B + T.2.2.2.2 - 4 = B + (T.2.2.2.2 - 4) from by omega, leP_b]
      rfl
    have gI : ∀ k, k < T.2.1.length → (txV (at0 B st) T).1.getD k e_I = inV (at0 B st) (T.2.1.getD k d3) := fun k hk => getD_map (inV (at0 B st)) d3 e_I T.2.1 hk
    have gO : ∀ k, k < T.2.2.2.1.length → (txV (at0 B st) T).2.1.getD k e_O = outV (at0 B st) (T.2.2.2.1.getD k d3) := fun k hk => getD_map (outV (at0 B st)) d3 e_O T.2.2.2.1 hk
    have TQ := tQ_i (st := st) (B := B) (t := t) (t0 := t0) (h := h) (tm := tm) T
    have sX : rs (sI st (fun k => B + (T.2.2.2.1.getD k d3).2.1) (fun k => ((txV (at0 B st) T).2.1.getD k e_O).2.length)) 0 (txV (at0 B st) T).2.1.length + rs (sI st (fun k => B + (T.2.1.getD k d3).2.1) (fun k => ((txV (at0 B st) T).1.getD k e_I).2.1.length)) 0 (txV (at0 B st) T).1.length = sgX (txV (at0 B st) T) := by
      unfold sgX
      rw [← rs_l (fun i : InV => sgK i.2.1) e_I, ← rs_l (fun o : OutV => sgK o.2) e_O, Nat.add_comm]
      congr 1
      · refine rs_c _ 0 (fun k _ hk => ?_)
        have hk' : k < T.2.1.length := by rw [← eI]; omega
        unfold sI
        show sgK (bl st (B + (T.2.1.getD k d3).2.1) ((txV (at0 B st) T).1.getD k e_I).2.1.length) = sgK ((txV (at0 B st) T).1.getD k e_I).2.1
        rw [gI k hk', bl_b]
        show sgK (bl (at0 B st) (T.2.1.getD k d3).2.1 (bl (at0 B st) (T.2.1.getD k d3).2.1 (T.2.1.getD k d3).2.2).length) = sgK (bl (at0 B st) (T.2.1.getD k d3).2.1 (T.2.1.getD k d3).2.2)
        rw [bl_len]
      · refine rs_c _ 0 (fun k _ hk => ?_)
        have hk' : k < T.2.2.2.1.length := by rw [← eO]; omega
        unfold sI
        show sgK (bl st (B + (T.2.2.2.1.getD k d3).2.1) ((txV (at0 B st) T).2.1.getD k e_O).2.length) = sgK ((txV (at0 B st) T).2.1.getD k e_O).2
        rw [gO k hk', bl_b]
        show sgK (bl (at0 B st) (T.2.2.2.1.getD k d3).2.1 (bl (at0 B st) (T.2.2.2.1.getD k d3).2.1 (T.2.2.2.1.getD k d3).2.2).length) = sgK (bl (at0 B st) (T.2.2.2.1.getD k d3).2.1 (T.2.2.2.1.getD k d3).2.2)
        rw [bl_len]
    refine l_sTx fu hfu st v4 v5 v6 v7 v8 v9 v10 v11 v12 v14 v15 v16 hst (x_M_isSound_12 fu st v4 v5 v6 v7 v8 v9 v10 v11 v12 v14 v15 v16 n) (i := i) (l := (txV (at0 B st) T).1.length) (o := o) (lo := (txV (at0 B st) T).2.1.length) (L := (txV (at0 B st) T).2.2) (at' := fun k => B + (T.2.1.getD k d3).1) (sc := fun k => B + (T.2.1.getD k d3).2.1) (ln := fun k => ((txV (at0 B st) T).1.getD k e_I).2.1.length) (sq := fun k => ((txV (at0 B st) T).1.getD k e_I).2.2) (v := fun k => ((txV (at0 B st) T).2.1.getD k e_O).1) (oa := fun k => B + (T.2.2.2.1.getD k d3).2.1) (ol := fun k => ((txV (at0 B st) T).2.1.getD k e_O).2.length) (w := fun k => ((txV (at0 B st) T).1.getD k e_I).1) (by omega) (by omega) (by rw [eI]; omega) (by rw [eI]; omega) (by rw [eO]; omega) (by rw [eO]; omega) (by omega) ht0 r4 (by rw [eI]; exact r5) r6 (by rw [eO]; exact r7) (by rw [eL]; exact r8) (by rw [eL]; exact leP_lt st _ 4) hh htm (fun k hk => ?_) (fun k hk => ?_) h9 _ c (fun z u0 u1 u2 h9' => ⟨tf_0 fun s => z (TQ.mpr s.1), h9'⟩) (fun z u0 u1 u2 h9' => ?_)
    · rw [eI] at hk
      obtain ⟨p1, p2, p3, p4, p5⟩ := hin_g hI hk
      have q := b2 _ (mem_gD T.2.1 d3 hk)
      refine ⟨p1, p2, ?_, ?_, ?_, ?_, ?_, ?_, ?_⟩
      · rw [p3]
        show _ = nI ((txV (at0 B st) T).1.getD k e_I).2.1.length
        rw [gI k hk]
        show _ = nI (bl (at0 B st) _ _).length
        rw [bl_len]
      · rw [p4]
        show _ = nI ((txV (at0 B st) T).1.getD k e_I).2.2
        rw [gI k hk]
        rfl
      · show B + (T.2.1.getD k d3).1 + 36 ≤ 103000
        omega
      · show B + (T.2.1.getD k d3).2.1 + ((txV (at0 B st) T).1.getD k e_I).2.1.length ≤ 103000
        rw [gI k hk]
        show B + (T.2.1.getD k d3).2.1 + (bl (at0 B st) _ _).length ≤ 103000
        rw [bl_len]
        omega
      · show ((txV (at0 B st) T).1.getD k e_I).2.1.length ≤ 3000
        rw [gI k hk]
        show (bl (at0 B st) _ _).length ≤ 3000
        rw [bl_len]
        omega
      · show ((txV (at0 B st) T).1.getD k e_I).2.2 < 2 ^ 32
        rw [gI k hk]
        exact leP_lt (at0 B st) _ 4
      · show ((txV (at0 B st) T).1.getD k e_I).1 = _
        rw [gI k hk, bl_b]
        rfl
    · rw [eO] at hk
      obtain ⟨p1, p2, p3, p4⟩ := hout_g hO hk
      have q := b3 _ (mem_gD T.2.2.2.1 d3 hk)
      refine ⟨?_, p2, ?_, ?_, ?_, ?_⟩
      · rw [p1]
        show _ = lN ((txV (at0 B st) T).2.1.getD k e_O).1
        rw [gO k hk]
        rfl
      · rw [p3]
        show _ = nI ((txV (at0 B st) T).2.1.getD k e_O).2.length
        rw [gO k hk]
        show _ = nI (bl (at0 B st) _ _).length
        rw [bl_len]
      · show ((txV (at0 B st) T).2.1.getD k e_O).1 < 2 ^ 64
        rw [gO k hk]
        exact leP_lt (at0 B st) _ 8
      · show B + (T.2.2.2.1.getD k d3).2.1 + ((txV (at0 B st) T).2.1.getD k e_O).2.length ≤ 103000
        rw [gO k hk]
        show B + (T.2.2.2.1.getD k d3).2.1 + (bl (at0 B st) _ _).length ≤ 103000
        rw [bl_len]
        omega
      · show ((txV (at0 B st) T).2.1.getD k e_O).2.length ≤ 3000
        rw [gO k hk]
        show (bl (at0 B st) _ _).length ≤ 3000
        rw [bl_len]
        omega
    · have hS := TQ.mp z
      have hl := sgX_le hS.2.1
      rw [eI, eO] at hl
      rw [Nat.add_assoc c, sX]
      generalize hX : sgX (txV (at0 B st) T) = X at hl
      refine ok_mono (ih (t + 1) _ _ (c + X) n _ u0 u1 u2 hr b6 (by omega) (by omega) (by omega) (by omega) (by omega) h9' (by omega)) (fun x hx => ⟨tf_c ?_ hx.1, hx.2⟩)
      have ef : (t + 1 = t0) = False := eq_false (by omega)
      rw [ef]
      show _ ↔ tS1 (t = t0) (txV (at0 B st) T) h tm ∧ snR h tm (TL.map (txV (at0 B st))) False (c + sgX (txV (at0 B st) T))
      rw [hX]
      exact ⟨fun y => ⟨hS, y⟩, fun y => y.2⟩
set_option maxHeartbeats 400000 in
theorem snR_i (h tm : Nat) : ∀ V c, snR h tm V False c ↔ (∀ T, T ∈ V → txS False T h tm ∧ leS T) ∧ c + sumL sgX V ≤ 40
  | [], c => ⟨fun z => ⟨fun T hT => absurd hT List.not_mem_nil, z⟩, fun z => z.2⟩
  | T :: V, c => by
    show tS1 False T h tm ∧ snR h tm V False (c + sgX T) ↔ _ ∧ c + (sgX T + sumL sgX V) ≤ 40
    rw [snR_i h tm V, ← Nat.add_assoc]
    constructor
    · intro z
      refine ⟨fun U hU => ?_, z.2.2⟩
      rcases List.mem_cons.mp hU with e | e
      · rw [e]; exact ⟨z.1.1, z.1.2.1⟩
      · exact z.2.1 U e
    · intro z
      have := z.1 T List.mem_cons_self
      exact ⟨⟨this.1, this.2, fun f => f.elim⟩, fun U hU => z.1 U (List.mem_cons_of_mem _ hU), z.2⟩
set_option maxHeartbeats 400000 in
theorem snR_s (h tm : Nat) {V : List TxV} (hV : 0 < V.length) : snR h tm V True 0 ↔ sndS V h tm := by
  cases V with
  | nil => exact absurd hV (Nat.lt_irrefl 0)
  | cons T V =>
    show tS1 True T h tm ∧ snR h tm V False (0 + sgX T) ↔ _
    rw [snR_i, Nat.zero_add]
    unfold sndS
    constructor
    · rintro ⟨⟨a1, a2, a3⟩, a4, a5⟩
      refine ⟨fun k _ hk => ?_, hV, a3 trivial, fun U hU => ?_, a5⟩
      · cases k with
        | zero =>
          show txS (0 = 0) T h tm
          rw [show ((0 : Nat) = 0) = True from eq_true rfl]
          exact a1
        | succ k =>
          show txS (k + 1 = 0) (V.getD k e_T) h tm
          rw [show (k + 1 = 0) = False from eq_false (by omega)]
          exact (a4 _ (mem_gD V e_T (Nat.lt_of_succ_lt_succ hk))).1
      · rcases List.mem_cons.mp hU with e | e
        · rw [e]; exact a2
        · exact (a4 U e).2
    · rintro ⟨a1, -, a3, a4, a5⟩
      have q := a1 0 (Nat.le_refl _) hV
      replace q : txS (0 = 0) T h tm := q
      rw [show ((0 : Nat) = 0) = True from eq_true rfl] at q
      refine ⟨⟨q, a4 T List.mem_cons_self, fun _ => a3⟩, fun U hU => ⟨?_, a4 U (List.mem_cons_of_mem _ hU)⟩, a5⟩
      obtain ⟨k, hk, e⟩ := List.getElem_of_mem hU
      have := a1 (k + 1) (Nat.zero_le _) (Nat.succ_lt_succ hk)
      replace this : txS (k + 1 = 0) (V.getD k e_T) h tm := this
      rw [show (k + 1 = 0) = False from eq_false (by omega), gD_e V e_T hk, e] at this
      exact this
set_option maxHeartbeats 400000 in
theorem v_M_isSound (fu : Nat) (hfu : 4000 ≤ fu) (st : Nat → Int32) (v1 v2 v3 v4 v5 v6 v7 v8 v9 v10 v11 v12 v13 : Nat → Int32) (v14 : Nat → Int64) (v15 v16 v17 v22 : Nat → Int32) (hst : ftB st) {B E t0 i0 o0 h tm a : Nat} {TL : List Tx5} (hBE : B + E ≤ 103000) (hE : E ≤ 3000) (ht : t0 + TL.length ≤ 2199) (hi : i0 + nIn TL ≤ 2600) (ho : o0 + nOut TL ≤ 11600) (hh : h < 128) (htm : tm < 2 ^ 32) (hr : rfH st v1 v2 v3 v4 v5 v6 v7 v8 v9 v10 v11 v12 v13 v14 v15 v16 v17 v22 (TL.map (shT B)) t0 i0 o0) (hb : txB E TL a) (u0 u1 u2 : Nat → Int32) (h1 : ftB u1) : ok (x_M_isSound fu st v4 v5 v6 v7 v8 v9 v10 v11 v12 v14 v15 v16 (nI t0) (nI TL.length) (nI h) (nI tm) u0 u1 u2) (sQ u0 (sndS (TL.map (txV (at0 B st))) h tm)) := by
  unfold x_M_isSound
  have hN := txB_n TL a hb
  have h9 : i9 u0 u0 u1 := ⟨fun _ _ => rfl, h1⟩
  by_cases q : TL.length = 0
  · refine ok_t (by rw [q]; rfl) (ok_some ⟨tf_0 fun z => ?_, h9⟩)
    have := z.2.1
    rw [List.length_map] at this
    omega
  · refine ok_f (fun z => q ((nI_eq (b := 0) (by omega) (by omega)).mp z)) ?_
    rw [show (0 : Int32) = nI 0 from rfl]
    refine ok_mono (l_s12 fu hfu st v1 v2 v3 v4 v5 v6 v7 v8 v9 v10 v11 v12 v13 v14 v15 v16 v17 v22 hst hBE hE (by omega) (by omega) hh htm TL t0 i0 o0 0 fu a u0 u1 u2 hr hb rfl (by omega) hi ho (by omega) h9 (Nat.le_refl _)) (fun x hx => ⟨tf_c ?_ hx.1, hx.2⟩)
    rw [show (t0 = t0) = True from eq_true rfl]
    exact snR_s h tm (by rw [List.length_map]; omega)
