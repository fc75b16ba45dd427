-- the class: isSound is sndS
set_option maxHeartbeats 400000 in
theorem flat_le (g : Nat → Int32) (TL : List Tx5) : (∀ T, T ∈ TL.map (txV g) → leS T) ↔ (∀ x, x ∈ (TL.flatMap fun T => T.2.1) → x.2.2 ≤ 1000) ∧ ∀ x, x ∈ (TL.flatMap fun T => T.2.2.2.1) → x.2.2 ≤ 1000 := by
  constructor
  · intro h
    refine ⟨fun x hx => ?_, fun x hx => ?_⟩
    · obtain ⟨T, hT, hx⟩ := List.mem_flatMap.mp hx
      have := (h (txV g T) (List.mem_map.mpr ⟨T, hT, rfl⟩)).1 (inV g x) (List.mem_map.mpr ⟨x, hx, rfl⟩)
      rw [show (inV g x).2.1 = bl g x.2.1 x.2.2 from rfl, bl_len] at this
      exact this
    · obtain ⟨T, hT, hx⟩ := List.mem_flatMap.mp hx
      have := (h (txV g T) (List.mem_map.mpr ⟨T, hT, rfl⟩)).2 (outV g x) (List.mem_map.mpr ⟨x, hx, rfl⟩)
      rw [show (outV g x).2 = bl g x.2.1 x.2.2 from rfl, bl_len] at this
      exact this
  · intro h T hT
    obtain ⟨T, hT', rfl⟩ := List.mem_map.mp hT
    refine ⟨fun x hx => ?_, fun x hx => ?_⟩
    · obtain ⟨x, hx', rfl⟩ := List.mem_map.mp hx
      rw [show (inV g x).2.1 = bl g x.2.1 x.2.2 from rfl, bl_len]
      exact h.1 x (List.mem_flatMap.mpr ⟨T, hT', hx'⟩)
    · obtain ⟨x, hx', rfl⟩ := List.mem_map.mp hx
      rw [show (outV g x).2 = bl g x.2.1 x.2.2 from rfl, bl_len]
      exact h.2 x (List.mem_flatMap.mpr ⟨T, hT', hx'⟩)
set_option maxHeartbeats 400000 in
theorem flat_sg (g : Nat → Int32) (TL : List Tx5) : sumL sgX (TL.map (txV g)) = sumL (fun x : In3 => sgK (bl g x.2.1 x.2.2)) (TL.flatMap fun T => T.2.1) + sumL (fun x : In3 => sgK (bl g x.2.1 x.2.2)) (TL.flatMap fun T => T.2.2.2.1) := by
  rw [sumL_map, sumL_flat, sumL_flat, ← sumL_add]
  congr 1
  funext T
  show sumL _ (T.2.1.map (inV g)) + sumL _ (T.2.2.2.1.map (outV g)) = _
  rw [sumL_map, sumL_map]
  rfl
set_option maxHeartbeats 400000 in
theorem v_La_isSound (fu : Nat) (hfu : 4000 ≤ fu) (nr : Nat) (hn : nr ≤ 3000) (g : Nat → Int32) {E a0 h tm : Nat} (hE : E ≤ nr) {TL : List Tx5} (hB : txB E TL a0) (hh : h < 128) (htm : tm < 2 ^ 32) {u3 u4 u5 u6 u7 u8 u9 u10 u11 : Nat → Int32} (hL : laH u3 u4 u5 u6 u7 u8 u9 u10 u11 TL 0 0 0) (i2 i3 : Int32) : ok (x_La_isSound fu (nI TL.length) i2 i3 (nI (nIn TL)) (nI (nOut TL)) nr g u3 u4 u5 u6 u7 u8 u9 u10 u11 (nI h) (lN tm)) (tf (sndS (TL.map (txV g)) h tm)) := by
  unfold x_La_isSound
  have hN := txB_n TL a0 hB
  have hF := laH_f TL 0 0 0 hL
  have hA := laH_at TL 0 0 0 hL
  have hX := txB_at TL a0 hB
  have S : ok (x_La_scriptsAreSound fu (nI TL.length) i2 i3 (nI (nIn TL)) (nI (nOut TL)) nr g u7 u8 u10 u11) (tf ((∀ T, T ∈ TL.map (txV g) → leS T) ∧ sumL sgX (TL.map (txV g)) ≤ 40)) := by
    unfold x_La_scriptsAreSound
    refine ok_mono (l_ss4 fu hfu (nI TL.length) i2 i3 nr hn g u7 u8 u10 u11 (ni := nIn TL) (no := nOut TL) (ia := fun m => ((TL.flatMap fun T => T.2.1).getD m d3).2.1) (il := fun m => ((TL.flatMap fun T => T.2.1).getD m d3).2.2) (oa := fun m => ((TL.flatMap fun T => T.2.2.2.1).getD m d3).2.1) (ol := fun m => ((TL.flatMap fun T => T.2.2.2.1).getD m d3).2.2) (by omega) (by omega) (fun m hm => ?_) (fun m hm => ?_) (nIn TL) 0 fu 0 (by omega) (by omega) (by omega)) (fun x hx => tf_c ?_ hx)
    · have hm' : m < (TL.flatMap fun T => T.2.1).length := by rw [nIn_f]; exact hm
      have q := hld_g hF.1 hm'
      rw [Nat.zero_add] at q
      refine ⟨q.2.1, q.2.2, ?_⟩
      obtain ⟨T, hT, hx⟩ := List.mem_flatMap.mp (mem_gD _ d3 hm')
      have := (hX T hT).1 _ hx
      show (List.getD _ m d3).2.1 + (List.getD _ m d3).2.2 ≤ nr
      omega
    · have hm' : m < (TL.flatMap fun T => T.2.2.2.1).length := by rw [nOut_f]; exact hm
      have q := hld_g hF.2 hm'
      rw [Nat.zero_add] at q
      refine ⟨q.2.1, q.2.2, ?_⟩
      obtain ⟨T, hT, hx⟩ := List.mem_flatMap.mp (mem_gD _ d3 hm')
      have := (hX T hT).2.1 _ hx
      show (List.getD _ m d3).2.1 + (List.getD _ m d3).2.2 ≤ nr
      omega
    · rw [flat_le, flat_sg, ← rs_l _ d3, ← rs_l _ d3, ← fa_l _ d3, ← fa_l _ d3, nIn_f, nOut_f, Nat.zero_add, and_assoc]
      rfl
  have P := l_is3 fu i2 i3 (nI (nIn TL)) (nI (nOut TL)) nr g u3 u4 u5 u6 u7 u8 u9 u10 u11 (m := TL.length) (h := h) (tm := tm) (A := fun t => amS (txV g (TL.getD t d5))) (B := fun t => inS (t = 0) (txV g (TL.getD t d5))) (C := fun t => fiS (txV g (TL.getD t d5)) h tm) (H := hgQ ((txV g (TL.getD 0 d5)).1.getD 0 e_I).2.1 h) (by omega) (fun t ht => ?_) (fun t ht => ?_) (fun t ht => ?_) (fun h0 b0 => ?_) S TL.length 0 fu (by omega) (by omega) (fun z => absurd z (by omega))
  · refine ok_mono P (fun x hx => tf_c ?_ hx)
    unfold sndS
    rw [List.length_map]
    by_cases q : 0 < TL.length
    · rw [getD_map (txV g) d5 e_T TL q]
      rw [fa_c (Q := fun t => txS (t = 0) ((TL.map (txV g)).getD t e_T) h tm) (Q' := fun t => amS (txV g (TL.getD t d5)) ∧ inS (t = 0) (txV g (TL.getD t d5)) ∧ fiS (txV g (TL.getD t d5)) h tm) (fun m _ hm => by rw [getD_map (txV g) d5 e_T TL hm]; rfl)]
    · exact ⟨fun z => absurd z.2.1 q, fun z => absurd z.2.1 q⟩
  · obtain ⟨k', o', b1, b2, -, ⟨-, -, -, -, b7, b8⟩, -, b10⟩ := hA t ht
    rw [Nat.zero_add] at b7 b8
    generalize hT : TL.getD t d5 = T at b1 b2 b7 b8 b10 ⊢
    have hm : T ∈ TL := hT ▸ mem_gD TL d5 ht
    refine v_am fu (by omega) _ i2 i3 _ _ nr (by omega) g u5 u9 (k := o') (l := (txV g T).2.1.length) (v := fun m => ((txV g T).2.1.getD m e_O).1) (at' := fun m => (T.2.2.2.1.getD m d3).1) (by omega) b7 ?_ ?_ (fun m hm' => ?_)
    · rw [b8]
      show _ = nI (o' + (T.2.2.2.1.map (outV g)).length)
      rw [List.length_map]
    · show o' + (T.2.2.2.1.map (outV g)).length ≤ 333
      rw [List.length_map]
      omega
    · replace hm' : m < (T.2.2.2.1.map (outV g)).length := hm'
      rw [List.length_map] at hm'
      have q := hld_g b10 hm'
      have r := (hX T hm).2.1 _ (mem_gD _ d3 hm')
      refine ⟨q.1, ?_, ?_⟩
      · show (T.2.2.2.1.getD m d3).1 + 8 ≤ nr
        omega
      · show ((T.2.2.2.1.map (outV g)).getD m e_O).1 = _
        rw [getD_map (outV g) d3 e_O _ hm']
        rfl
  · obtain ⟨k', o', b1, b2, -, ⟨-, -, b5, b6, -, -⟩, b9, -⟩ := hA t ht
    rw [Nat.zero_add] at b5 b6
    generalize hT : TL.getD t d5 = T at b1 b2 b5 b6 b9 ⊢
    have hm : T ∈ TL := hT ▸ mem_gD TL d5 ht
    refine v_in fu (by omega) _ i2 i3 _ _ nr (by omega) g u4 u6 (k := k') (l := (txV g T).1.length) (w := fun m => ((txV g T).1.getD m e_I).1) (at' := fun m => (T.2.1.getD m d3).1) (by omega) b5 ?_ ?_ (fun m hm' => ?_)
    · rw [b6]
      show _ = nI (k' + (T.2.1.map (inV g)).length)
      rw [List.length_map]
    · show k' + (T.2.1.map (inV g)).length ≤ 73
      rw [List.length_map]
      omega
    · replace hm' : m < (T.2.1.map (inV g)).length := hm'
      rw [List.length_map] at hm'
      have q := hld_g b9 hm'
      have r := (hX T hm).1 _ (mem_gD _ d3 hm')
      refine ⟨q.1, ?_, ?_⟩
      · show (T.2.1.getD m d3).1 + 36 ≤ nr
        omega
      · show ((T.2.1.map (inV g)).getD m e_I).1 = _
        rw [getD_map (inV g) d3 e_I _ hm']
        rfl
  · obtain ⟨k', o', b1, b2, -, ⟨-, b4, b5, b6, -, -⟩, b9, -⟩ := hA t ht
    rw [Nat.zero_add] at b4 b5 b6
    generalize hT : TL.getD t d5 = T at b1 b2 b4 b5 b6 b9 ⊢
    have hm : T ∈ TL := hT ▸ mem_gD TL d5 ht
    have hE' := hX T hm
    refine v_fi fu (by omega) _ i2 i3 _ _ nr (by omega) g u3 u4 u8 (k := k') (l := (txV g T).1.length) (e := T.2.2.2.2) (s := fun m => ((txV g T).1.getD m e_I).2.2) (at' := fun m => (T.2.1.getD m d3).2.1 + (T.2.1.getD m d3).2.2) (by omega) b5 ?_ b4 ⟨by omega, by omega⟩ ?_ (fun m hm' => ?_) (by omega) htm
    · rw [b6]
      show _ = nI (k' + (T.2.1.map (inV g)).length)
      rw [List.length_map]
    · show k' + (T.2.1.map (inV g)).length ≤ 73
      rw [List.length_map]
      omega
    · replace hm' : m < (T.2.1.map (inV g)).length := hm'
      rw [List.length_map] at hm'
      have q := hld_g b9 hm'
      have r := hE'.1 _ (mem_gD _ d3 hm')
      refine ⟨q.2.2, ?_, ?_⟩
      · show (T.2.1.getD m d3).2.1 + (T.2.1.getD m d3).2.2 + 4 ≤ nr
        omega
      · show ((T.2.1.map (inV g)).getD m e_I).2.2 = _
        rw [getD_map (inV g) d3 e_I _ hm']
        rfl
  · obtain ⟨k', o', b1, b2, b3, -, b9, -⟩ := hA 0 h0
    have hk := (b3 rfl).1
    generalize hT : TL.getD 0 d5 = T at b1 b2 b9 b0 ⊢
    have hm : T ∈ TL := hT ▸ mem_gD TL d5 h0
    have hl : 0 < T.2.1.length := by
      have : 0 < (T.2.1.map (inV g)).length := b0.1
      rw [List.length_map] at this
      exact this
    have q := hld_g b9 hl
    have r := (hX T hm).1 _ (mem_gD _ d3 hl)
    rw [hk] at q
    have e : (txV g T).1.getD 0 e_I = inV g (T.2.1.getD 0 d3) := getD_map (inV g) d3 e_I T.2.1 hl
    rw [e]
    exact v_bw fu _ i2 i3 _ _ nr (by omega) g u7 u8 q.2.1 q.2.2 (by omega) hh
