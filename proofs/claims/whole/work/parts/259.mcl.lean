-- what a transaction spends is collected
set_option maxHeartbeats 400000 in
theorem ldM_c {P : Nat → Prop} {q : Nat → Nat} {C C' : Nat → va_E} {cy : Nat → ClassId} {ad : Nat → Nat} {nb : Nat} {par hgt tim : Nat → Nat} {bit : Nat → Int32} {bad : Nat → Bool} {rw : Nat → List Int32} {vl : Nat → Bool} {mk : Nat → Nat} {s : Ld} (h : ldM P q C cy ad nb par hgt tim bit bad rw vl mk s) (e : ∀ k, 256 ≤ k ∨ (130 ≤ k ∧ k < 133) ∨ k = 220 ∨ k = 221 → C' k = C k) : ldM P q C' cy ad nb par hgt tim bit bad rw vl mk s := by
  obtain ⟨sl, h0, hB, h130, hLu, hLh, hr⟩ := h
  exact ⟨sl, h0, bkR_c hB (fun k hk => e k (Or.inl hk)), (e 130 (by decide)).trans h130, alR_c hLu (e 131 (by decide)) (e 220 (by decide)), alR_c hLh (e 132 (by decide)) (e 221 (by decide)), hr⟩
def spA (cy : Nat → ClassId) (f : Nat → Option Nat) : va_E := .inl (cy 6, 73, .inr (.inr (.inr (.inr f))))
set_option maxHeartbeats 400000 in
theorem m_arp {M : Mm} {a n x : Nat} {cA : ClassId} {i : Int32} {f : Nat → Option Nat} {K : Nat → Prop} {Z : Prop} (h : mat M a (.inl (cA, n, .inr (.inr (.inr (.inr f)))))) (hi : inb i n = true) (e : f i.toNatClampNeg = some x) (hK : K x) : mar M a cA i (fun r => osp r Z K) := ⟨n, f, h, hi, by rw [e]; exact hK⟩
set_option maxHeartbeats 400000 in
theorem m_arz {M : Mm} {a n : Nat} {cA : ClassId} {i : Int32} {f : Nat → Option Nat} {K : Nat → Prop} {Z : Prop} (h : mat M a (.inl (cA, n, .inr (.inr (.inr (.inr f)))))) (hi : inb i n = true) (e : f i.toNatClampNeg = none) (hZ : Z) : mar M a cA i (fun r => osp r Z K) := ⟨n, f, h, hi, by rw [e]; exact hZ⟩
set_option maxHeartbeats 400000 in
theorem osp_n {Z : Prop} {K : Nat → Prop} (h : Z) : osp none Z K := h
set_option maxHeartbeats 400000 in
theorem osp_s {Z : Prop} {K : Nat → Prop} {x : Nat} (h : K x) : osp (some x) Z K := h
set_option maxHeartbeats 400000 in
theorem rip_i {a b : Nat} (ha : a ≤ 1000) (hb : b ≤ 1000) : (5 : Int32) ≤ nI a - nI b ↔ b + 5 ≤ a := by
  by_cases h : b ≤ a
  · rw [nI_sb h]
    rw [show (5 : Int32) = nI 5 from rfl, nI_leI (a := 5) (b := a - b) (by omega) (by omega)]
    omega
  · refine ⟨fun z => absurd z ?_, fun z => absurd z (by omega)⟩
    intro z
    have z1 := Int32.le_iff_toInt_le.mp z
    rw [Int32.toInt_sub, nI_I (by omega), nI_I (by omega), show (5 : Int32).toInt = 5 from rfl, Int.bmod_eq_of_le (by omega) (by omega)] at z1
    omega
set_option maxHeartbeats 4000000 in
theorem w_cl98 (fu MC MS : Nat) (cy : Nat → ClassId) (ad : Nat → Nat) (mi : Nat) {P : Nat → Prop} {q : Nat → Nat} {C : Nat → va_E} {nb : Nat} {par hgt tim : Nat → Nat} {bit : Nat → Int32} {bad : Nat → Bool} {rw : Nat → List Int32} {vl : Nat → Bool} {mk : Nat → Nat} {s : Ld} {N : Nat} (hS : ldM P q C cy ad nb par hgt tim bit bad rw vl mk s) (hI : ldI rw nb N s) (hNf : 2 * N + 200 ≤ fu) (hO : oK rw nb) (hr0 : TLb rw 0 = []) (hh : ∀ k, k < nb → hgt k ≤ 1000) {rl tk ck' : Int32} {tp : Nat} (hK : C 103 = kpO q rl tp tk ck') {b t : Nat} (hb : b < nb) (hbk : bkS rw hgt tim b) (ht : t < (TLb rw b).length) {u3 u4 u5 u6 u7 u8 u9 u10 u11 : Nat → Int32} (hl : lyR C q cy (.ref (q (kB b + 1))) (rw b).length (TLb rw b) u3 u4 u5 u6 u7 u8 u9 u10 u11) {κ σ : Nat} {Φ : Int32 → Mm → Prop} {M : Mm} {f : Nat → Option Nat} {cs : Nat → Cn} (hM : RG P q (va_up C 134 (spA cy f)) M) (hf : ∀ k, k < (txO rw b t).2.1.length → cs k ∈ s.1 ∧ f (nIn ((TLb rw b).take t) + k) = some (q (ck rw (cs k)))) (hΦ0 : (∀ k, k < (txO rw b t).2.1.length → unR hgt b (cs k) = false) → Φ 0 M) (hΦ1 : (∃ k, k < (txO rw b t).2.1.length ∧ unR hgt b (cs k) = true) → Φ 11 M) : ∀ r k m, k + r = (txO rw b t).2.1.length → r < m → (∀ j, j < k → unR hgt b (cs j) = false) → xw_mK_collect_98 fu MC MS cy ad mi Φ m κ σ M (q 103) (q (kB b)) (nI t) (nI (nIn ((TLb rw b).take t) + k))
  | r, k, m + 1, hk, hm, hno => by
    show xv_mK_collect_98 fu MC MS cy ad mi Φ (xw_mK_collect_98 fu MC MS cy ad mi Φ m) κ σ M (q 103) (q (kB b)) (nI t) (nI (nIn ((TLb rw b).take t) + k))
    unfold xv_mK_collect_98
    obtain ⟨sl, ⟨hq, hP, -⟩, hB, -⟩ := id hS
    have hnn := bk_n hbk
    have h3000 := hbk.2.1
    have hmm := nIn_m2 (TLb rw b) (t := t + 1) (t' := (TLb rw b).length) (by omega)
    rw [List.take_length] at hmm
    have htk : nIn ((TLb rw b).take (t + 1)) = nIn ((TLb rw b).take t) + (txO rw b t).2.1.length := nIn_tk (TLb rw b) t ht
    obtain ⟨⟨b0, a1, a2, a3, a4⟩, hL⟩ := id hl
    obtain ⟨⟨-, -, x3, x4, -, -⟩, -⟩ := laH_x (TLb rw b) 0 0 0 hL t ht
    rw [Nat.zero_add, Nat.zero_add] at x3 x4
    have n1 : ∀ {j}, j ≠ 134 → va_up C 134 (spA cy f) j = C j := fun h => up_n h
    have m103 := g_at hM (hP 103 (by decide)) ((n1 (by decide)).trans hK)
    have m120 := g_at hM (hP 120 (by decide)) ((n1 (by decide)).trans b0)
    have m122 := g_at hM (hP 122 (by decide)) ((n1 (by decide)).trans a2)
    have m134 := g_at hM (hP 134 (by decide)) up_e
    obtain ⟨⟨p0, -⟩, c0, -⟩ := hB.1 b hb
    have kb : kB b ≠ 134 := by unfold kB; omega
    have mb := g_at hM p0 ((n1 kb).trans c0)
    refine m_gr m103 rfl (m_gr m120 rfl (m_bn (e' := nI (t + 1)) (nI_add t 1) (m_ai m122 (inb_nI (by omega) (by decide)) ?_)))
    rw [nI_clamp (n := t + 1) (by omega), x4]
    match r, hk, hm with
    | 0, hk, hm =>
      exact m_t ((nI_leI (a := nIn ((TLb rw b).take (t + 1))) (b := nIn ((TLb rw b).take t) + k) (by omega) (by omega)).mpr (by omega)) (hΦ0 fun j hj => hno j (by omega))
    | r + 1, hk, hm =>
      obtain ⟨hc1, hc2⟩ := hf k (by omega)
      have hcv := ldI_v hI hc1
      obtain ⟨pc, cc⟩ := hB.2 (cs k) hcv
      have hcb := ck_b (rw := rw) (cs k)
      have mc := g_at hM pc ((n1 (by omega)).trans cc)
      have hcl : (nI (nIn ((TLb rw b).take t) + k)).toNatClampNeg = nIn ((TLb rw b).take t) + k := nI_clamp (n := nIn ((TLb rw b).take t) + k) (by omega)
      have NX : unR hgt b (cs k) = false → xv_mK_collect_149 fu MC MS cy ad mi Φ (xw_mK_collect_98 fu MC MS cy ad mi Φ m) κ σ M (q 103) (q (kB b)) (nI t) (nI (nIn ((TLb rw b).take t) + k)) := fun hu => by
        unfold xv_mK_collect_149
        refine m_bn (e' := nI (nIn ((TLb rw b).take t) + (k + 1))) (nI_add (nIn ((TLb rw b).take t) + k) 1) (w_cl98 fu MC MS cy ad mi hS hI hNf hO hr0 hh hK hb hbk ht hl hM hf hΦ0 hΦ1 r (k + 1) m (by omega) (by omega) (fun j hj => ?_))
        by_cases z : j = k
        · rw [z]; exact hu
        · exact hno j (by omega)
      refine m_f (fun z => absurd ((nI_leI (a := nIn ((TLb rw b).take (t + 1))) (b := nIn ((TLb rw b).take t) + k) (by omega) (by omega)).mp z) (by omega)) (m_gr m103 rfl (m_arp m134 (inb_nI (by omega) (by decide)) (by rw [hcl]; exact hc2) (m_gi mc rfl ?_)))
      by_cases h0 : (cs k).2.1 = 0
      · rw [if_pos h0]
        obtain ⟨⟨pB, -⟩, cB, -⟩ := hB.1 (cs k).1 hcv.1.1
        have kB' : kB (cs k).1 ≠ 134 := by unfold kB; omega
        have mB := g_at hM pB ((n1 kB').trans cB)
        refine m_f (by decide) (m_gi mb rfl (m_gr m103 rfl (m_arp m134 (inb_nI (by omega) (by decide)) (by rw [hcl]; exact hc2) (m_gr mc rfl (m_gi mB rfl (m_b ?_))))))
        have hh1 := hh b hb
        have hh2 := hh (cs k).1 hcv.1.1
        by_cases h5 : hgt (cs k).1 + 5 ≤ hgt b
        · exact m_t ((rip_i hh1 hh2).mpr h5) (NX (decide_eq_false fun z => by omega))
        · exact m_f (fun z => h5 ((rip_i hh1 hh2).mp z)) (hΦ1 ⟨k, by omega, decide_eq_true ⟨h0, by omega⟩⟩)
      · rw [if_neg h0]
        exact m_t rfl (NX (decide_eq_false fun z => h0 z.1))
set_option maxHeartbeats 4000000 in
theorem w_cl10 (fu MC MS : Nat) (cy : Nat → ClassId) (ad : Nat → Nat) (mi : Nat) {P : Nat → Prop} {q : Nat → Nat} {C : Nat → va_E} {nb : Nat} {par hgt tim : Nat → Nat} {bit : Nat → Int32} {bad : Nat → Bool} {rw : Nat → List Int32} {vl : Nat → Bool} {mk : Nat → Nat} {s : Ld} {N : Nat} (hS : ldM P q C cy ad nb par hgt tim bit bad rw vl mk s) (hI : ldI rw nb N s) (hNf : 2 * N + 200 ≤ fu) (hO : oK rw nb) (hr0 : TLb rw 0 = []) (hh : ∀ k, k < nb → hgt k ≤ 1000) {rl tk ck' : Int32} {tp : Nat} (hK : C 103 = kpO q rl tp tk ck') {b t : Nat} (hb : b < nb) (hbk : bkS rw hgt tim b) (ht : t < (TLb rw b).length) {u3 u4 u5 u6 u7 u8 u9 u10 u11 : Nat → Int32} (hl : lyR C q cy (.ref (q (kB b + 1))) (rw b).length (TLb rw b) u3 u4 u5 u6 u7 u8 u9 u10 u11) {κ σ : Nat} (hκ : κ ≤ MC ∧ σ ≤ MS) {Φ : Int32 → Mm → Prop} {f0 : Nat → Option Nat} (hΦ : ∀ v M' f, RG P q (va_up C 134 (spA cy f)) M' → (∀ i, i < nIn ((TLb rw b).take t) → f i = f0 i) → ((v = 10 ∧ none ∈ spn rw b t s.1) ∨ (none ∉ spn rw b t s.1 ∧ (∀ k, k < (txO rw b t).2.1.length → f (nIn ((TLb rw b).take t) + k) = some (q (ck rw ((spC rw b t s.1).getD k e_C)))) ∧ ((v = 11 ∧ (spC rw b t s.1).any (unR hgt b) = true) ∨ (v = 0 ∧ ¬ (spC rw b t s.1).any (unR hgt b) = true)))) → Φ v M') : ∀ r k m f M, k + r = (txO rw b t).2.1.length → r < m → RG P q (va_up C 134 (spA cy f)) M → (∀ i, i < nIn ((TLb rw b).take t) → f i = f0 i) → (∀ j, j < k → ∃ c, fnd rw s.1 (inK rw b ((txO rw b t).2.1.getD j d3)) = some c ∧ f (nIn ((TLb rw b).take t) + j) = some (q (ck rw c))) → xw_mK_collect_10 fu MC MS cy ad mi Φ m κ σ M (q 103) (q (kB b)) (nI t) (nI (nIn ((TLb rw b).take t) + k))
  | r, k, m + 1, f, M, hk, hm, hM, hf0, hfk => by
    show xv_mK_collect_10 fu MC MS cy ad mi Φ (xw_mK_collect_10 fu MC MS cy ad mi Φ m) κ σ M (q 103) (q (kB b)) (nI t) (nI (nIn ((TLb rw b).take t) + k))
    unfold xv_mK_collect_10
    obtain ⟨sl, hS1⟩ := id hS
    obtain ⟨⟨hq, hP, -⟩, hB, h130, -⟩ := id hS1
    have hnn := bk_n hbk
    have h3000 := hbk.2.1
    have hmm := nIn_m2 (TLb rw b) (t := t + 1) (t' := (TLb rw b).length) (by omega)
    rw [List.take_length] at hmm
    have htk : nIn ((TLb rw b).take (t + 1)) = nIn ((TLb rw b).take t) + (txO rw b t).2.1.length := nIn_tk (TLb rw b) t ht
    obtain ⟨⟨b0, a1, a2, a3, a4, a5⟩, hL⟩ := id hl
    obtain ⟨⟨-, -, x3, x4, -, -⟩, y1, -⟩ := laH_x (TLb rw b) 0 0 0 hL t ht
    rw [Nat.zero_add] at x3 x4 y1
    rw [Nat.zero_add] at x3 x4
    have n1 : ∀ {j}, j ≠ 134 → va_up C 134 (spA cy f) j = C j := fun h => up_n h
    have m103 := g_at hM (hP 103 (by decide)) ((n1 (by decide)).trans hK)
    have m120 := g_at hM (hP 120 (by decide)) ((n1 (by decide)).trans b0)
    have m122 := g_at hM (hP 122 (by decide)) ((n1 (by decide)).trans a2)
    have m124 := g_at hM (hP 124 (by decide)) ((n1 (by decide)).trans a4)
    obtain ⟨⟨p0, p1, -⟩, c0, c1, -⟩ := hB.1 b hb
    have k256 : 256 ≤ kB b := by unfold kB; omega
    have mb := g_at hM p0 ((n1 (by omega)).trans c0)
    refine m_gr m103 rfl (m_gr m120 rfl (m_bn (e' := nI (t + 1)) (nI_add t 1) (m_ai m122 (inb_nI (by omega) (by decide)) ?_)))
    rw [nI_clamp (n := t + 1) (by omega), x4]
    match r, hk, hm with
    | 0, hk, hm =>
      refine m_t ((nI_leI (a := nIn ((TLb rw b).take (t + 1))) (b := nIn ((TLb rw b).take t) + k) (by omega) (by omega)).mpr (by omega)) (m_gr m103 rfl (m_gr m120 rfl (m_ai m122 (inb_nI (by omega) (by decide)) ?_)))
      rw [nI_clamp (n := t) (by omega), x3]
      have hno : none ∉ spn rw b t s.1 := fun z => by
        obtain ⟨j, hj, e⟩ := spn_no.mp z
        obtain ⟨c, e1, -⟩ := hfk j (by omega)
        rw [e] at e1
        exact absurd e1 (by simp)
      have hall : ∀ j, j < (txO rw b t).2.1.length → (spC rw b t s.1).getD j e_C ∈ s.1 ∧ f (nIn ((TLb rw b).take t) + j) = some (q (ck rw ((spC rw b t s.1).getD j e_C))) := fun j hj => by
        obtain ⟨c, e1, e2⟩ := hfk j (by omega)
        rw [spC_g hj, e1]
        exact ⟨(fnd_in e1).1, e2⟩
      have hany : (spC rw b t s.1).any (unR hgt b) = true ↔ ∃ j, j < (txO rw b t).2.1.length ∧ unR hgt b ((spC rw b t s.1).getD j e_C) = true := by
        rw [List.any_eq_true]
        constructor
        · rintro ⟨x, hx, e⟩
          obtain ⟨j, hj, e'⟩ := me_gD hx
          rw [spC_len] at hj
          exact ⟨j, hj, by rw [e']; exact e⟩
        · rintro ⟨j, hj, e⟩
          exact ⟨_, gDe (by rw [spC_len]; exact hj), e⟩
      have key := w_cl98 fu MC MS cy ad mi hS hI hNf hO hr0 hh hK hb hbk ht hl (κ := κ) (σ := σ) (Φ := Φ) (M := M) (f := f) (cs := fun j => (spC rw b t s.1).getD j e_C) hM hall (fun z => hΦ 0 M f hM hf0 (Or.inr ⟨hno, fun j hj => (hall j hj).2, Or.inr ⟨rfl, fun w => by
        obtain ⟨j, hj, e⟩ := hany.mp w
        rw [z j hj] at e
        exact absurd e (by decide)⟩⟩)) (fun z => hΦ 11 M f hM hf0 (Or.inr ⟨hno, fun j hj => (hall j hj).2, Or.inl ⟨rfl, hany.mpr z⟩⟩)) (txO rw b t).2.1.length 0 fu (Nat.zero_add _) (by omega) (fun j hj => absurd hj (Nat.not_lt_zero _))
      exact key
    | r + 1, hk, hm =>
      have hkl : k < (txO rw b t).2.1.length := by omega
      obtain ⟨z1, z2, z3⟩ := y1 k hkl
      have eI : ((TLb rw b).getD t d5).2.1[k] = (txO rw b t).2.1.getD k d3 := gD3 _ hkl
      rw [eI] at z1
      have hin := (bk_t hbk ht).1.2.2.2.1 ((txO rw b t).2.1.getD k d3) (by rw [← gD3 _ hkl]; exact List.getElem_mem hkl)
      have hcl : (nI (nIn ((TLb rw b).take t) + k)).toNatClampNeg = nIn ((TLb rw b).take t) + k := nI_clamp (n := nIn ((TLb rw b).take t) + k) (by omega)
      obtain ⟨I, hIe⟩ : ∃ I, I = (txO rw b t).2.1.getD k d3 := ⟨_, rfl⟩
      rw [← hIe] at z1 hin
      have m134 := g_at hM (hP 134 (by decide)) up_e
      refine m_f (fun z => absurd ((nI_leI (a := nIn ((TLb rw b).take (t + 1))) (b := nIn ((TLb rw b).take t) + k) (by omega) (by omega)).mp z) (by omega)) (m_gr m103 rfl (m_gr m103 rfl (m_gr mb rfl (m_gr m103 rfl (m_gr m120 rfl (m_ai m124 (inb_nI (by omega) (by decide)) (m_gr mb rfl (m_gr m103 rfl (m_gr m120 rfl (m_ai m124 (inb_nI (by omega) (by decide)) ?_))))))))))
      rw [hcl, z1]
      refine m_bn (e' := nI (I.1 + 32)) (nI_add _ 32) ?_
      refine w_Word fu hM hq p1 ((n1 (by omega)).trans c1) (by omega) (o := I.1 + 32) (by omega) _ (fun M1 hM1 => m_ck (g_at hM1 (hP 130 (by decide)) ((n1 (by decide)).trans h130)) ⟨0, 0, by omega, ?_⟩)
      obtain ⟨sl', hS2⟩ := ldM_c (C' := va_up C 134 (spA cy f)) hS (fun k hk => n1 (by omega))
      have hLH := prL_l hI.2.1 hI.1
      have hHN := hI.2.2.2.2.1
      have hHN2 := hI.2.2.2.2.2.2
      refine w_find fu 0 0 cy ad mi (by omega) hM1 hS2 hr0 hO (by omega) p1 ((n1 (by omega)).trans c1) (by omega) (a := I.1) (idx := leP (lf (rw b)) (I.1 + 32) 4) (by omega) (leP_lt _ _ 4) (by omega) (fun M2 hM2 => ?_)
      have eK : (bl (lf (rw b)) I.1 32, leP (lf (rw b)) (I.1 + 32) 4) = inK rw b ((txO rw b t).2.1.getD k d3) := by rw [← hIe]; rfl
      rw [eK]
      have upU : ∀ (v : Option Nat) M', RG P q (va_up (va_up C 134 (spA cy f)) 134 (.inl (cy 6, 73, .inr (.inr (.inr (.inr (va_up f (nI (nIn ((TLb rw b).take t) + k)).toNatClampNeg v))))))) M' → RG P q (va_up C 134 (spA cy (va_up f (nIn ((TLb rw b).take t) + k) v))) M' := fun v M' h => RG_c h (fun j _ => by
        by_cases z : j = 134
        · rw [z, up_e, up_e, hcl]
          rfl
        · rw [up_n z, up_n z, up_n z])
      cases hfn : fnd rw s.1 (inK rw b ((txO rw b t).2.1.getD k d3)) with
      | none =>
        refine osp_n ?_
        refine g_sr (m := 73) (f := f) hM2 hq (hP 134 (by decide)) up_e (inb_nI (by omega) (by decide)) (fun M3 hM3' => ?_)
        have hM3 := upU _ _ hM3'
        refine m_gr (g_at hM3 (hP 103 (by decide)) ((up_n (by decide)).trans hK)) rfl (m_arz (g_at hM3 (hP 134 (by decide)) up_e) (inb_nI (by omega) (by decide)) (by rw [hcl]; exact up_e) ?_)
        exact hΦ 10 M3 _ hM3 (fun i hi => (up_n (by omega)).trans (hf0 i hi)) (Or.inl ⟨rfl, spn_no.mpr ⟨k, hkl, hfn⟩⟩)
      | some c =>
        have hcv := ldI_v hI (fnd_in hfn).1
        obtain ⟨pc, cc⟩ := hB.2 c hcv
        have hcb := ck_b (rw := rw) c
        refine osp_s ?_
        refine m_ck (g_at hM2 pc ((n1 (by omega)).trans cc)) (g_sr (m := 73) (f := f) hM2 hq (hP 134 (by decide)) up_e (inb_nI (by omega) (by decide)) (fun M3 hM3' => ?_))
        have hM3 := upU _ _ hM3'
        refine m_gr (g_at hM3 (hP 103 (by decide)) ((up_n (by decide)).trans hK)) rfl (m_arp (g_at hM3 (hP 134 (by decide)) up_e) (inb_nI (by omega) (by decide)) (by rw [hcl]; exact up_e) (m_bn (e' := nI (nIn ((TLb rw b).take t) + (k + 1))) (nI_add (nIn ((TLb rw b).take t) + k) 1) ?_))
        refine w_cl10 fu MC MS cy ad mi hS hI hNf hO hr0 hh hK hb hbk ht hl hκ hΦ r (k + 1) m _ M3 (by omega) (by omega) hM3 (fun i hi => (up_n (by omega)).trans (hf0 i hi)) (fun j hj => ?_)
        by_cases z : j = k
        · subst z
          exact ⟨c, hfn, up_e⟩
        · obtain ⟨c', e1, e2⟩ := hfk j (by omega)
          exact ⟨c', e1, (up_n (by omega)).trans e2⟩
