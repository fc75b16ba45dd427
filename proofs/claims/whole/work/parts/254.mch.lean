-- the ledger in the memory: change
set_option maxHeartbeats 400000 in
theorem concat_of {L : List Cn} (h : 0 < L.length) : ∃ L0 d, L = L0 ++ [d] := ⟨L.dropLast, L.getLast (fun e => by rw [e] at h; exact absurd h (by decide)), (List.dropLast_concat_getLast _).symm⟩
set_option maxHeartbeats 400000 in
theorem ap_gD {L : List Cn} {d : Cn} {i : Nat} : (L ++ [d]).getD i e_C = if i < L.length then L.getD i e_C else if i = L.length then d else e_C := by
  rw [List.getD_eq_getElem?_getD]
  by_cases z : i < L.length
  · rw [List.getElem?_append_left z, if_pos z, List.getD_eq_getElem?_getD]
  · rw [List.getElem?_append_right (by omega), if_neg z]
    by_cases y : i = L.length
    · rw [y, Nat.sub_self, if_pos rfl]
      rfl
    · rw [if_neg y, List.getElem?_eq_none (by rw [List.length_singleton]; omega)]
      rfl
set_option maxHeartbeats 400000 in
theorem map_ap (rw : Nat → List Int32) (L : List Cn) (d : Cn) : (L ++ [d]).map (ck rw) = L.map (ck rw) ++ [ck rw d] := by
  rw [List.map_append]
  rfl
set_option maxHeartbeats 400000 in
theorem coO_q {q q' : Nat → Nat} {rw : Nat → List Int32} {c : Cn} (h : q' (kB c.1) = q (kB c.1)) (s : Int32) : coO q' rw c s = coO q rw c s := by
  unfold coO
  rw [h]
/-- L, when c has come or gone -/
def chL (L : List Cn) (c : Cn) : List Cn := if c ∈ L then (if L.getLast? = some c then L.dropLast else L.dropLast.set (L.idxOf c) (L.getLast?.getD e_C)) else L ++ [c]
set_option maxHeartbeats 400000 in
theorem chL_i {L : List Cn} {c : Cn} (g : c ∈ L) : L.idxOf c < L.length ∧ L.getD (L.idxOf c) e_C = c := by
  have h := List.idxOf_lt_length_of_mem g
  refine ⟨h, ?_⟩
  rw [List.getD_eq_getElem?_getD, List.getElem?_eq_getElem h]
  exact List.getElem_idxOf h
set_option maxHeartbeats 400000 in
theorem chL_c {L0 : List Cn} {d c : Cn} (g : c ∈ L0 ++ [d]) : chL (L0 ++ [d]) c = if d = c then L0 else L0.set ((L0 ++ [d]).idxOf c) d := by
  unfold chL
  rw [if_pos g, List.getLast?_concat, List.dropLast_concat]
  by_cases z : d = c
  · rw [if_pos z, if_pos (by rw [z])]
  · rw [if_neg z, if_neg (fun e => z (Option.some.inj e))]
    rfl
set_option maxHeartbeats 400000 in
theorem chL_p {L : List Cn} (hnd : L.Nodup) (c : Cn) : (chL L c).Nodup ∧ tgl L (chL L c) c ∧ (chL L c).length ≤ L.length + 1 := by
  by_cases g : c ∈ L
  · obtain ⟨hi, ei⟩ := chL_i g
    obtain ⟨L0, d, hL0⟩ := concat_of (L := L) (by omega)
    subst hL0
    rw [chL_c g]
    have hll : (L0 ++ [d]).length = L0.length + 1 := by rw [List.length_append]; rfl
    by_cases z : d = c
    · subst z
      rw [if_pos rfl]
      obtain ⟨n1, n2⟩ := drop_L hnd
      exact ⟨n1, n2, by omega⟩
    · rw [if_neg z]
      generalize (L0 ++ [d]).idxOf c = i at *
      have hiL : i < L0.length := by
        rcases Nat.lt_or_ge i L0.length with w | w
        · exact w
        · rw [ap_gD, if_neg (by omega), if_pos (by omega)] at ei
          exact absurd ei z
      rw [ap_gD, if_pos hiL] at ei
      obtain ⟨n1, n2⟩ := set_L hnd hiL ei
      exact ⟨n1, n2, by rw [List.length_set]; omega⟩
  · have e : chL L c = L ++ [c] := if_neg g
    rw [e]
    refine ⟨List.nodup_append.mpr ⟨hnd, List.nodup_cons.mpr ⟨List.not_mem_nil, List.nodup_nil⟩, fun a ha b hb e => ?_⟩, fun x => ⟨fun w => ?_, fun w => ?_⟩, by rw [List.length_append]; exact Nat.le_refl _⟩
    · rw [List.mem_singleton.mp hb] at e
      exact g (e ▸ ha)
    · rcases List.mem_append.mp w with w | w
      · exact Or.inl ⟨fun e => g (e ▸ w), w⟩
      · exact Or.inr ⟨List.mem_singleton.mp w, g⟩
    · rcases w with w | w
      · exact List.mem_append_left _ w.2
      · rw [w.1]; exact List.mem_append_right _ (List.mem_singleton.mpr rfl)
set_option maxHeartbeats 4000000 in
theorem w_change (fu MC MS : Nat) (cy : Nat → ClassId) (ad : Nat → Nat) (mi : Nat) {P : Nat → Prop} {q : Nat → Nat} {C : Nat → va_E} {M : Mm} (hM : RG P q C M) {nb : Nat} {par hgt tim : Nat → Nat} {bit : Nat → Int32} {bad : Nat → Bool} {rw : Nat → List Int32} {vl : Nat → Bool} {mk : Nat → Nat} {sl : Cn → Int32} {L H : List Cn} {cu ch : Nat} (hS : ldS P q C cy ad nb par hgt tim bit bad rw vl mk sl L H cu ch) (hO : oK rw nb) (hp : ∀ k, 0 < k → par k < k) {c : Cn} (hc : cVd rw nb c) (hcu : cu ≤ 60000) {κ σ : Nat} (hκ : κ + (flU L c cu - cu) ≤ MC ∧ σ + 4 * (flU L c cu - cu) ≤ MS) {Φ : Mm → Prop} (hΦ : ∀ M' P' q' C' sl', RG P' q' C' M' → ldS P' q' C' cy ad nb par hgt tim bit bad rw vl mk sl' (chL L c) H (flU L c cu) ch → leF P q C P' q' C' → Φ M') : xw_mLe_change fu MC MS cy ad mi Φ κ σ M (q 130) (q (ck rw c)) := by
  obtain ⟨⟨hq, hP, h223, had⟩, hB, h130, hLu, hLh, hvL, hvH, hnd, hsi, hsn⟩ := id hS
  obtain ⟨pc, cc⟩ := hB.2 c hc
  have m130 := g_at hM (hP 130 (by decide)) h130
  have mc := g_at hM pc cc
  obtain ⟨ll, lc, ee, mm, h131⟩ := al_s hLu
  rw [List.length_map] at h131 ll
  have m131 := g_at hM (hP 131 (by decide)) h131
  have hcb := ck_b (rw := rw) c
  unfold xw_mLe_change
  refine m_gi mc rfl ?_
  by_cases g : c ∈ L
  · obtain ⟨hi, ei⟩ := chL_i g
    obtain ⟨i, hie⟩ : ∃ i, i = L.idxOf c := ⟨_, rfl⟩
    rw [← hie] at hi ei
    have es : sl c = nI i := by rw [← ei]; exact hsi i hi
    have ef : flU L c cu = cu := if_pos g
    rw [ef] at hΦ
    rw [es]
    obtain ⟨L0, d, hL0⟩ := concat_of (L := L) (by omega)
    subst hL0
    rw [chL_c g, ← hie] at hΦ
    have hll : (L0 ++ [d]).length = L0.length + 1 := by rw [List.length_append]; rfl
    have hd : cVd rw nb d := hvL d (List.mem_append_right _ (List.mem_singleton.mpr rfl))
    obtain ⟨pd, cd⟩ := hB.2 d hd
    have hdb := ck_b (rw := rw) d
    have hLu' := hLu
    rw [map_ap] at hLu'
    refine m_t ((nI_leI (a := 0) (b := i) (by omega) (by omega)).mpr (Nat.zero_le _)) (m_gr m130 rfl (m_gr m130 rfl (m_ck m131 ⟨0, 0, by omega, w_Size fu 0 0 cy ad mi hM hLu ?_⟩)))
    rw [List.length_map, hll]
    refine m_bn (e' := nI (L0.map (ck rw)).length) (by rw [List.length_map]; exact nI_sb (a := L0.length + 1) (b := 1) (by omega)) (m_ck m131 ⟨0, 0, by omega, ?_⟩)
    refine w_Rem fu 0 0 cy ad mi hM hq hLu' (by decide) (by omega) (fun M1 C1 hM1 hC1 hL1 => ⟨_, rfl, ?_⟩)
    have cd1 : C1 (ck rw d) = coO q rw d (sl d) := (hC1 _ (by omega) (by omega)).trans cd
    have cc1 : C1 (ck rw c) = coO q rw c (sl c) := (hC1 _ (by omega) (by omega)).trans cc
    have h130a : C1 130 = .inr (5, [.ref (q 131), .ref (q 132)]) := (hC1 130 (by decide) (by decide)).trans h130
    have hB1 := bkR_c (C' := C1) hB (fun k hk => hC1 k (by omega) (by omega))
    refine m_ck (g_at hM1 pd cd1) ?_
    have hF1 : ∀ j, j < 256 → j ≠ 131 → j ≠ 132 → j ≠ 220 → j ≠ 221 → C1 j = C j := fun j _ a _ b _ => hC1 j a b
    by_cases z : d = c
    · subst z
      rw [if_pos rfl] at hΦ
      obtain ⟨n1, n2⟩ := drop_L hnd
      refine m_t rfl ?_
      unfold xv_mLe_change_74
      refine g_pt hM1 hq pc cc1 (show 9 < 10 by decide) (fun M2 hM2 => hΦ M2 P q (va_up C1 (ck rw d) (coO q rw d (-1))) (upS sl d (-1)) hM2 ⟨⟨hq, hP, h223, had⟩, bkR_sl hB1 hO hd (-1), (up_n (by omega)).trans h130a, alR_c hL1 (up_n (by omega)) (up_n (by omega)), alR_c hLh ((up_n (by omega)).trans (hC1 _ (by decide) (by decide))) ((up_n (by omega)).trans (hC1 _ (by decide) (by decide))), fun x hx => hvL x (List.mem_append_left _ hx), hvH, n1, fun j hj => ?_, fun x hx hn => ?_⟩ ⟨fun _ h => h, fun _ h => Or.inl h, fun _ _ _ => rfl, fun j h a b e f => (up_n (by omega)).trans (hF1 j h a b e f)⟩)
      · unfold upS
        rw [if_neg (fun e => ?_)]
        · have := hsi j (by omega)
          rw [ap_gD, if_pos hj] at this
          exact this
        · exact (List.nodup_append.mp hnd).2.2 _ (gDe hj) d (List.mem_singleton.mpr rfl) e
      · unfold upS
        by_cases y : x = d
        · rw [if_pos y]
        · rw [if_neg y]
          refine hsn x hx fun w => ?_
          rcases List.mem_append.mp w with w | w
          · exact hn w
          · exact y (List.mem_singleton.mp w)
    · rw [if_neg z] at hΦ
      have hne : ck rw d ≠ ck rw c := fun e => z (ck_ij hO hd hc e)
      have hiL : i < L0.length := by
        rcases Nat.lt_or_ge i L0.length with w | w
        · exact w
        · rw [ap_gD, if_neg (by omega), if_pos (by omega)] at ei
          exact absurd ei z
      rw [ap_gD, if_pos hiL] at ei
      obtain ⟨n1, n2⟩ := set_L hnd hiL ei
      obtain ⟨-, -, ee1, mm1, h131a⟩ := al_s hL1
      refine m_f (fun e => hne (hq _ _ pd pc (Option.some.inj e))) (m_gr (g_at hM1 (hP 130 (by decide)) h130a) rfl (m_gi (g_at hM1 pc cc1) rfl (m_ck (g_at hM1 (hP 131 (by decide)) h131a) ⟨0, 0, by omega, ?_⟩)))
      rw [es]
      refine w_Set fu 0 0 cy ad mi hM1 hq hL1 (by decide) pd (by rw [List.length_map]; exact hiL) (ci := 2) (Or.inr rfl) ⟨_, cd1⟩ (by omega) (fun M2 C2 hM2 hC2 hL2 => ⟨_, rfl, ?_⟩)
      rw [show (L0.map (ck rw)).set i (ck rw d) = (L0.set i d).map (ck rw) from (List.map_set ..).symm] at hL2
      have cd2 : C2 (ck rw d) = coO q rw d (sl d) := (hC2 _ (by omega)).trans cd1
      have cc2 : C2 (ck rw c) = coO q rw c (sl c) := (hC2 _ (by omega)).trans cc1
      have hB2 := bkR_c (C' := C2) hB1 (fun k hk => hC2 k (by omega))
      refine m_gi (g_at hM2 pc cc2) rfl ?_
      rw [es]
      refine g_pt hM2 hq pd cd2 (show 9 < 10 by decide) (fun M3 hM3 => ?_)
      unfold xv_mLe_change_74
      refine g_pt hM3 hq pc ((up_n (fun e => hne e.symm)).trans cc2) (show 9 < 10 by decide) (fun M4 hM4 => hΦ M4 P q (va_up (va_up C2 (ck rw d) (coO q rw d (nI i))) (ck rw c) (coO q rw c (-1))) (upS (upS sl d (nI i)) c (-1)) hM4 ⟨⟨hq, hP, h223, had⟩, bkR_sl (bkR_sl hB2 hO hd (nI i)) hO hc (-1), (up_n (by omega)).trans ((up_n (by omega)).trans ((hC2 _ (by decide)).trans h130a)), alR_c hL2 ((up_n (by omega)).trans (up_n (by omega))) ((up_n (by omega)).trans (up_n (by omega))), alR_c hLh ((up_n (by omega)).trans ((up_n (by omega)).trans ((hC2 _ (by decide)).trans (hC1 _ (by decide) (by decide))))) ((up_n (by omega)).trans ((up_n (by omega)).trans ((hC2 _ (by decide)).trans (hC1 _ (by decide) (by decide))))), fun x hx => ?_, hvH, n1, fun j hj => ?_, fun x hx hn => ?_⟩ ⟨fun _ h => h, fun _ h => Or.inl h, fun _ _ _ => rfl, fun j h a b e f => (up_n (by omega)).trans ((up_n (by omega)).trans ((hC2 j e).trans (hF1 j h a b e f)))⟩)
      · rcases (n2 x).mp hx with w | w
        · exact hvL x w.2
        · exact w.1 ▸ hc
      · rw [List.length_set] at hj
        rw [set_gD hiL]
        unfold upS
        by_cases y : j = i
        · rw [if_pos y, if_neg z, if_pos rfl, y]
        · have hjn := hsi j (by omega)
          rw [ap_gD, if_pos hj] at hjn
          rw [if_neg y, if_neg (fun e => y (nd_gD (List.nodup_append.mp hnd).1 hj hiL (e.trans ei.symm))), if_neg (fun e => (List.nodup_append.mp hnd).2.2 _ (gDe hj) d (List.mem_singleton.mpr rfl) e)]
          exact hjn
      · unfold upS
        by_cases y : x = c
        · rw [if_pos y]
        · rw [if_neg y, if_neg (fun e => hn ((n2 x).mpr (Or.inl ⟨y, by rw [e]; exact List.mem_append_right _ (List.mem_singleton.mpr rfl)⟩)))]
          exact hsn x hx (fun w => hn ((n2 x).mpr (Or.inl ⟨y, w⟩)))
  · have es : sl c = -1 := hsn c hc g
    have ef : flU L c cu = ncp cu L.length := if_neg g
    rw [ef] at hΦ hκ
    rw [show chL L c = L ++ [c] from if_neg g] at hΦ
    rw [es]
    refine m_f (by decide) (m_gr m130 rfl (m_ck m131 ⟨0, 0, by omega, w_Size fu 0 0 cy ad mi hM hLu ?_⟩))
    rw [List.length_map]
    refine g_pt hM hq pc cc (show 9 < 10 by decide) (fun M1 hM1 => ?_)
    have c1 : ∀ {j}, j ≠ ck rw c → va_up C (ck rw c) (coO q rw c (nI L.length)) j = C j := fun h => up_n h
    have hM1' : RG P q (va_up C (ck rw c) (coO q rw c (nI L.length))) M1 := hM1
    have hLu1 := alR_c (C' := va_up C (ck rw c) (coO q rw c (nI L.length))) hLu (c1 (by omega)) (c1 (by omega))
    refine m_gr (g_at hM1' (hP 130 (by decide)) ((c1 (by omega)).trans h130)) rfl (m_ck (g_at hM1' (hP 131 (by decide)) ((c1 (by omega)).trans h131)) ⟨dcp cu L.length, 4 * dcp cu L.length, by unfold dcp; omega, ?_⟩)
    have hB1 := bkR_sl hB hO hc (nI L.length)
    refine w_Add fu (dcp cu L.length) (4 * dcp cu L.length) cy ad mi hM1' hq hLu1 (by decide) h223 had (by decide) pc ⟨by omega, by omega⟩ hcu (ci := 2) (Or.inr rfl) ⟨_, up_e⟩ (fun j hj => ?_) (by rw [List.length_map]; omega) (fun M2 P2 q2 C2 hM2 hq2 p2 e2 c2 hL2 => ?_)
    · obtain ⟨x, hx, e⟩ := List.mem_map.mp hj
      have hxb := ck_b (rw := rw) x
      obtain ⟨px, cx⟩ := hB1.2 x (hvL x hx)
      rw [← e]
      exact ⟨px, by omega, by omega, ⟨_, cx⟩⟩
    rw [List.length_map, ← map_ap] at hL2
    have Pk : ∀ j, P j → P2 j := fun j hj => (p2 j).mpr (Or.inl hj)
    have c2e : ∀ j, j ≠ 131 → j ≠ 220 → j ≠ ck rw c → C2 j = C j := fun j a b d => (c2 j a b).trans (c1 d)
    refine hΦ M2 P2 q2 C2 (upS sl c (nI L.length)) hM2 ⟨⟨hq2, fun k hk => Pk k (hP k hk), fun w => ?_, (e2 135 (by decide)).trans had⟩, bkR_q hB1 hp (fun k k1 hk => ⟨Pk k hk, e2 k (by omega), c2 k (by omega) (by omega)⟩), ?_, hL2, alR_q hLh ⟨Pk _ (hP 132 (by decide)), ⟨fun w => ?_, fun w => Pk _ w⟩⟩ (e2 135 (by decide)) (fun _ => e2 _ (by decide)) (fun j hj => ?_) (c2e 132 (by decide) (by decide) (by omega)) (fun _ => c2e 221 (by decide) (by decide) (by omega)), fun x hx => ?_, hvH, ?_, fun j hj => ?_, fun x hx hn => ?_⟩ ⟨Pk, fun j hj => ?_, fun j a b => e2 j a, fun j h a b e f => c2e j a e (by omega)⟩
    · rcases (p2 _).mp w with w | w
      · exact h223 w
      · exact absurd w (by decide)
    · rw [c2e 130 (by decide) (by decide) (by omega), e2 131 (by decide), e2 132 (by decide)]
      exact h130
    · rcases (p2 _).mp w with w | w
      · exact w
      · exact absurd w (by decide)
    · obtain ⟨x, hx, e⟩ := List.mem_map.mp hj
      have hxb := ck_b (rw := rw) x
      exact e2 j (by omega)
    · rcases List.mem_append.mp hx with hx | hx
      · exact hvL x hx
      · rw [List.mem_singleton.mp hx]; exact hc
    · refine List.nodup_append.mpr ⟨hnd, List.nodup_cons.mpr ⟨List.not_mem_nil, List.nodup_nil⟩, fun a ha b hb e => ?_⟩
      rw [List.mem_singleton.mp hb] at e
      exact g (e ▸ ha)
    · rw [List.length_append] at hj
      replace hj : j < L.length + 1 := hj
      by_cases y : j < L.length
      · have eD : (L ++ [c]).getD j e_C = L.getD j e_C := by rw [ap_gD, if_pos y]
        rw [eD]
        unfold upS
        rw [if_neg (fun e => g (by rw [← e]; exact gDe y))]
        exact hsi j y
      · have eD : (L ++ [c]).getD j e_C = c := by rw [ap_gD, if_neg y, if_pos (by omega)]
        rw [eD]
        unfold upS
        rw [if_pos rfl]
        congr 1
        omega
    · unfold upS
      rw [if_neg (fun e => hn (by rw [e]; exact List.mem_append_right _ (List.mem_singleton.mpr rfl)))]
      exact hsn x hx (fun w => hn (List.mem_append_left _ w))
    · rcases (p2 j).mp hj with w | w
      · exact Or.inl w
      · exact Or.inr (Or.inl w)
