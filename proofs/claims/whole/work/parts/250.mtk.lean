-- a block's coins are made
set_option maxHeartbeats 400000 in
theorem coin_ij {TL : List Tx5} {t j t' j' : Nat} (h1 : t < TL.length) (h2 : j < (TL.getD t d5).2.2.2.1.length) (h1' : t' < TL.length) (h2' : j' < (TL.getD t' d5).2.2.2.1.length) (e : nOut (TL.take t) + j = nOut (TL.take t') + j') : t = t' ∧ j = j' := by
  rcases Nat.lt_trichotomy t t' with h | h | h
  · have := nOut_m2 TL (t := t + 1) (t' := t') (by omega)
    rw [nOut_tk TL t h1] at this
    omega
  · subst h
    exact ⟨rfl, by omega⟩
  · have := nOut_m2 TL (t := t' + 1) (t' := t) (by omega)
    rw [nOut_tk TL t' h1'] at this
    omega
/-- so far o coins of the new block are made -/
def tkI (P0 : Nat → Prop) (q0 : Nat → Nat) (C0 : Nat → va_E) (cy : Nat → ClassId) (nb : Nat) (TL : List Tx5) (gI g : Nat → Int32) (o : Nat) (P : Nat → Prop) (q : Nat → Nat) (C : Nat → va_E) (M : Mm) : Prop := RG P q C M ∧ IJ P q ∧ (∀ j, P j ↔ P0 j ∨ (kB nb + 8 ≤ j ∧ j < kB nb + 8 + o)) ∧ (∀ j, P0 j ∨ j = 135 → q j = q0 j) ∧ (∀ j, P0 j → j ≠ kB nb + 4 → C j = C0 j) ∧ (∃ f, C (kB nb + 4) = .inl (cy 6, nOut TL, .inr (.inr (.inr (.inr f)))) ∧ ∀ i, i < o → f i = some (q (kB nb + 8 + i))) ∧ ∀ t j, t < TL.length → j < (TL.getD t d5).2.2.2.1.length → nOut (TL.take t) + j < o → C (kB nb + 8 + (nOut (TL.take t) + j)) = coN q0 (kB nb) gI g t j ((TL.getD t d5).2.2.2.1.getD j d3)
set_option maxHeartbeats 400000 in
theorem tkI_at {P0 : Nat → Prop} {q0 : Nat → Nat} {C0 : Nat → va_E} {cy : Nat → ClassId} {nb : Nat} {TL : List Tx5} {gI g : Nat → Int32} {o : Nat} {P : Nat → Prop} {q : Nat → Nat} {C : Nat → va_E} {M : Mm} (h : tkI P0 q0 C0 cy nb TL gI g o P q C M) {k : Nat} (hk : P0 k) (hn : k ≠ kB nb + 4) {x : va_E} (e : C0 k = x) : mat M (q0 k) x := by
  rw [← h.2.2.2.1 k (Or.inl hk)]
  exact g_at h.1 ((h.2.2.1 k).mpr (Or.inl hk)) ((h.2.2.2.2.1 k hk hn).trans e)
set_option maxHeartbeats 2000000 in
theorem w_tk103 (fu MC MS : Nat) (cy : Nat → ClassId) (ad : Nat → Nat) (mi : Nat) {P0 : Nat → Prop} {q0 : Nat → Nat} {C0 : Nat → va_E} {nb : Nat} {TL : List Tx5} {gI g : Nat → Int32} (hP0 : ∀ k, k < 138 ∧ k ≠ 29 ∧ k ≠ 137 ∧ k ≠ 135 → P0 k) (hb0 : P0 (kB nb) ∧ P0 (kB nb + 3) ∧ P0 (kB nb + 4)) (hfr : ∀ j, kB nb + 8 ≤ j → ¬ P0 j) {rl tk ch : Int32} {tp : Nat} (hK : C0 103 = kpO q0 rl tp tk ch) {E a0 : Nat} {u3 u4 u5 u6 u7 u8 u9 u10 u11 : Nat → Int32} (hl : lyR C0 q0 cy (.ref (q0 104)) E TL u3 u4 u5 u6 u7 u8 u9 u10 u11) (hT : txB E TL a0) (h104 : C0 104 = .inl (cy 0, 3000, .inl g)) (hE : E ≤ 3000) {fs : List Value} (eb : C0 (kB nb) = .inr (1, fs)) (e3 : fs[3]? = some (.ref (q0 (kB nb + 3)))) (e8 : fs[8]? = some (.ref (q0 (kB nb + 4)))) (ei : C0 (kB nb + 3) = .inl (cy 0, 32 * TL.length + 32, .inl gI)) {Φ : Option Nat → Mm → Prop} {x1 : Int32} {KX SX : Nat} (hX : KX ≤ MC ∧ SX ≤ MS) {k79 : Nat → Nat → Mm → Nat → Int32 → Nat → Int32 → Prop} {t : Nat} (ht : t < TL.length) (hk : ∀ P q C M κ σ, tkI P0 q0 C0 cy nb TL gI g (nOut (TL.take (t + 1))) P q C M → κ + (nOut TL - nOut (TL.take (t + 1))) ≤ KX ∧ σ + 10 * (nOut TL - nOut (TL.take (t + 1))) ≤ SX → k79 κ σ M (q0 103) x1 (q0 (kB nb)) (nI (t + 1))) : ∀ r o m P q C M κ σ, o + r = nOut (TL.take (t + 1)) → nOut (TL.take t) ≤ o → r < m → tkI P0 q0 C0 cy nb TL gI g o P q C M → κ + (nOut TL - o) ≤ KX ∧ σ + 10 * (nOut TL - o) ≤ SX → xw_mK_take_103 fu MC MS cy ad mi Φ k79 m κ σ M (q0 103) x1 (q0 (kB nb)) (nI t) (nI o)
  | r, o, m + 1, P, q, C, M, κ, σ, ho, ho2, hm, hI, hκ => by
    show xv_mK_take_103 fu MC MS cy ad mi Φ k79 (xw_mK_take_103 fu MC MS cy ad mi Φ k79 m) κ σ M (q0 103) x1 (q0 (kB nb)) (nI t) (nI o)
    unfold xv_mK_take_103
    have hnn := txB_n TL a0 hT
    have hmm := nOut_m2 TL (t := t + 1) (t' := TL.length) (by omega)
    rw [List.take_length] at hmm
    have htk := nOut_tk TL t ht
    obtain ⟨⟨b0, a1, a2, a3, a4⟩, hL⟩ := id hl
    obtain ⟨⟨-, -, -, -, x5, x6⟩, -⟩ := laH_x TL 0 0 0 hL t ht
    rw [Nat.zero_add, Nat.zero_add] at x5 x6
    have k256 : 256 ≤ kB nb := by unfold kB; omega
    have m103 := tkI_at hI (hP0 103 (by decide)) (by omega) hK
    have m120 := tkI_at hI (hP0 120 (by decide)) (by omega) b0
    have m123 := tkI_at hI (hP0 123 (by decide)) (by omega) a3
    have mb := tkI_at hI hb0.1 (by omega) eb
    refine m_gr m103 rfl (m_gr m120 rfl (m_bn (e' := nI (t + 1)) (nI_add t 1) (m_ai m123 (inb_nI (by omega) (by decide)) ?_)))
    rw [nI_clamp (n := t + 1) (by omega), x6]
    match r, ho, hm with
    | 0, ho, hm =>
      have e : o = nOut (TL.take (t + 1)) := by omega
      subst e
      exact m_t ((nI_leI (a := nOut (TL.take (t + 1))) (b := nOut (TL.take (t + 1))) (by omega) (by omega)).mpr (Nat.le_refl _)) (m_bn (e' := nI (t + 1)) (nI_add t 1) (hk P q C M κ σ hI hκ))
    | r + 1, ho, hm =>
      obtain ⟨hM, hq, hPi, hqi, hCi, ⟨f, hf, hf'⟩, hco⟩ := id hI
      have hkc : ¬ P (kB nb + 8 + o) := fun z => by
        rcases (hPi _).mp z with z | z
        · exact hfr _ (by omega) z
        · omega
      refine m_f (fun z => absurd ((nI_leI (a := nOut (TL.take (t + 1))) (b := o) (by omega) (by omega)).mp z) (by omega)) (m_gr mb e8 ⟨⟨by omega, by omega⟩, g_nw hM hq hkc (fun a M2 hM2 hq2 => ?_)⟩)
      have pP : ∀ j, P0 j → P j := fun j hj => (hPi j).mpr (Or.inl hj)
      have nk : ∀ j, P0 j → j ≠ kB nb + 8 + o := fun j hj e => hkc (e ▸ pP j hj)
      have qe : ∀ j, P0 j → va_up q (kB nb + 8 + o) a j = q0 j := fun j hj => (up_n (nk j hj)).trans (hqi j (Or.inl hj))
      have m103' : mat M2 (q0 103) (kpO q0 rl tp tk ch) := by
        rw [← qe 103 (hP0 103 (by decide))]
        exact g_at hM2 (Or.inl (pP _ (hP0 103 (by decide)))) ((up_n (nk _ (hP0 103 (by decide)))).trans ((hCi _ (hP0 103 (by decide)) (by omega)).trans hK))
      refine m_gr m103' rfl ⟨0, 0, ⟨by omega, by omega⟩, ?_⟩
      have hlq : lyR C (va_up q (kB nb + 8 + o) a) cy (.ref (va_up q (kB nb + 8 + o) a 104)) E TL u3 u4 u5 u6 u7 u8 u9 u10 u11 := by
        rw [qe 104 (hP0 104 (by decide))]
        exact lyR_q hl (fun k k1 k2 => ⟨hCi k (hP0 k (by omega)) (by omega), qe k (hP0 k (by omega))⟩)
      have key := w_Coin fu 0 0 cy ad mi (P := fun j => P j ∨ j = kB nb + 8 + o) (q := va_up q (kB nb + 8 + o) a) (C := C) (kc := kB nb + 8 + o) hM2 hq2 (fun k hk => Or.inl (pP k (hP0 k hk))) (kb := kB nb) (ki := kB nb + 3) (ks := 104) (n := 3000) (nI' := 32 * TL.length + 32) (E := E) (a0 := a0) (TL := TL) ⟨Or.inr rfl, by omega⟩ ⟨Or.inl (pP _ hb0.1), by omega⟩ ⟨Or.inl (pP _ hb0.2.1), by omega⟩ ⟨Or.inl (pP _ (hP0 104 (by decide))), by omega, by decide⟩ ((hCi _ hb0.1 (by omega)).trans eb) (by rw [qe _ hb0.2.1]; exact e3) ((hCi _ hb0.2.1 (by omega)).trans ei) (by omega) ((hCi _ (hP0 104 (by decide)) (by omega)).trans h104) (by decide) ⟨hE, hE⟩ hlq hT (t := t) (j := o - nOut (TL.take t)) ht (by omega) (by omega) (κ := 0) (σ := 0) (Φ := fun M16 => mck M16 a 2 <| msr M16 (q0 (kB nb + 4)) (cy 6) (nI o) (some a) fun M17 => bnd (nI o + (1 : Int32)) fun v18 => xw_mK_take_103 fu MC MS cy ad mi Φ k79 m (κ + 1 + 0) (σ + 10 + 0) M17 (q0 103) x1 (q0 (kB nb)) (nI t) v18) (fun M3 hM3 => ?_)
      · rw [up_e, qe _ hb0.1, qe 120 (hP0 120 (by decide)), show nOut (TL.take t) + (o - nOut (TL.take t)) = o from by omega] at key
        exact key
      obtain ⟨O, hO⟩ : ∃ O, O = (TL.getD t d5).2.2.2.1.getD (o - nOut (TL.take t)) d3 := ⟨_, rfl⟩
      rw [← hO] at hM3
      have eN : coN (va_up q (kB nb + 8 + o) a) (kB nb) gI g t (o - nOut (TL.take t)) O = coN q0 (kB nb) gI g t (o - nOut (TL.take t)) O := by
        unfold coN
        rw [qe _ hb0.1]
      rw [eN] at hM3
      have ma : mat M3 a (coN q0 (kB nb) gI g t (o - nOut (TL.take t)) O) := by
        have := g_at hM3 (k := kB nb + 8 + o) (Or.inr rfl) up_e
        rw [up_e] at this
        exact this
      refine m_ck ma ?_
      rw [← qe _ hb0.2.2]
      refine g_sr hM3 hq2 (Or.inl (pP _ hb0.2.2)) ((up_n (by omega)).trans hf) (inb_nI (by omega) (by omega)) (fun M4 hM4 => m_bn (e' := nI (o + 1)) (nI_add o 1) ?_)
      rw [nI_clamp (n := o) (by omega)] at hM4
      refine w_tk103 fu MC MS cy ad mi hP0 hb0 hfr hK hl hT h104 hE eb e3 e8 ei hX ht hk r (o + 1) m _ _ _ M4 _ _ (by omega) (by omega) (by omega) ⟨hM4, hq2, fun j => ⟨fun z => ?_, fun z => ?_⟩, fun j hj => hj.elim (qe j) (fun z => by subst z; exact (up_n (by have : 256 ≤ kB nb := (by unfold kB; omega); omega)).trans (hqi 135 (Or.inr rfl))), fun j hj hn => ?_, ⟨va_up f o (some a), up_e, fun i hi => ?_⟩, fun t' j' h1 h2 h3 => ?_⟩ ⟨by omega, by omega⟩
      · rcases z with z | z
        · rcases (hPi j).mp z with y | y
          · exact Or.inl y
          · exact Or.inr ⟨y.1, by omega⟩
        · exact Or.inr ⟨by omega, by omega⟩
      · rcases z with z | z
        · exact Or.inl (pP j z)
        · by_cases y : j = kB nb + 8 + o
          · exact Or.inr y
          · exact Or.inl ((hPi j).mpr (Or.inr ⟨z.1, by omega⟩))
      · rw [up_n hn, up_n (nk j hj)]
        exact hCi j hj hn
      · by_cases y : i = o
        · subst y
          rw [up_e, up_e]
        · rw [va_up_ne _ _ y, up_n (by omega)]
          exact hf' i (by omega)
      · rw [up_n (by omega)]
        by_cases y : nOut (TL.take t') + j' = o
        · obtain ⟨y1, y2⟩ := coin_ij (t := t') (j := j') (t' := t) (j' := o - nOut (TL.take t)) h1 h2 ht (by omega) (by omega)
          subst y1
          rw [y, up_e, hO, y2]
        · rw [up_n (by omega)]
          exact hco t' j' h1 h2 (by omega)
set_option maxHeartbeats 1000000 in
theorem w_tk79 (fu MC MS : Nat) (cy : Nat → ClassId) (ad : Nat → Nat) (mi : Nat) (hfu : 400 ≤ fu) {P0 : Nat → Prop} {q0 : Nat → Nat} {C0 : Nat → va_E} {nb : Nat} {TL : List Tx5} {gI g : Nat → Int32} (hP0 : ∀ k, k < 138 ∧ k ≠ 29 ∧ k ≠ 137 ∧ k ≠ 135 → P0 k) (hb0 : P0 (kB nb) ∧ P0 (kB nb + 3) ∧ P0 (kB nb + 4)) (hfr : ∀ j, kB nb + 8 ≤ j → ¬ P0 j) {rl tk ch : Int32} {tp : Nat} (hK : C0 103 = kpO q0 rl tp tk ch) {E a0 : Nat} {u3 u4 u5 u6 u7 u8 u9 u10 u11 : Nat → Int32} (hl : lyR C0 q0 cy (.ref (q0 104)) E TL u3 u4 u5 u6 u7 u8 u9 u10 u11) (hT : txB E TL a0) (h104 : C0 104 = .inl (cy 0, 3000, .inl g)) (hE : E ≤ 3000) {fs : List Value} (eb : C0 (kB nb) = .inr (1, fs)) (e3 : fs[3]? = some (.ref (q0 (kB nb + 3)))) (e8 : fs[8]? = some (.ref (q0 (kB nb + 4)))) (ei : C0 (kB nb + 3) = .inl (cy 0, 32 * TL.length + 32, .inl gI)) {Φ : Option Nat → Mm → Prop} {x1 : Int32} {KX SX : Nat} (hX : KX ≤ MC ∧ SX ≤ MS) (hEnd : ∀ P q C M κ σ, tkI P0 q0 C0 cy nb TL gI g (nOut TL) P q C M → κ ≤ KX ∧ σ ≤ SX → mgr M (q0 103) 0 8 fun r4 => oss r4 fun q5 => mck M q5 11 <| ∃ mc6 ms7 : Nat, (κ + mc6 ≤ MC ∧ σ + ms7 ≤ MS) ∧ xw_mAl_add0 fu mc6 ms7 cy ad mi (fun v9 M8 => mgi M8 (q0 103) 0 11 fun v10 => bnd (v10 + x1) fun v11 => mpt M8 (q0 103) 0 11 (.int v11) fun M12 => Φ (some (q0 (kB nb))) M12) 0 0 M q5 (q0 (kB nb))) : ∀ r t m P q C M κ σ, t + r = TL.length → r < m → tkI P0 q0 C0 cy nb TL gI g (nOut (TL.take t)) P q C M → κ + (nOut TL - nOut (TL.take t)) ≤ KX ∧ σ + 10 * (nOut TL - nOut (TL.take t)) ≤ SX → xw_mK_take_79 fu MC MS cy ad mi Φ m κ σ M (q0 103) x1 (q0 (kB nb)) (nI t)
  | r, t, m + 1, P, q, C, M, κ, σ, ht, hm, hI, hκ => by
    show xv_mK_take_79 fu MC MS cy ad mi Φ (xw_mK_take_79 fu MC MS cy ad mi Φ m) κ σ M (q0 103) x1 (q0 (kB nb)) (nI t)
    unfold xv_mK_take_79
    have hnn := txB_n TL a0 hT
    obtain ⟨⟨b0, a1, a2, a3, a4⟩, hL⟩ := id hl
    have k256 : 256 ≤ kB nb := by unfold kB; omega
    have m103 := tkI_at hI (hP0 103 (by decide)) (by omega) hK
    have m120 := tkI_at hI (hP0 120 (by decide)) (by omega) b0
    have m123 := tkI_at hI (hP0 123 (by decide)) (by omega) a3
    refine m_gr m103 rfl (m_gi m120 rfl ?_)
    match r, ht, hm with
    | 0, ht, hm =>
      have e : t = TL.length := by omega
      subst e
      rw [List.take_length] at hI hκ
      exact m_t ((nI_leI (a := TL.length) (b := TL.length) (by omega) (by omega)).mpr (Nat.le_refl _)) (hEnd P q C M κ σ hI (by omega))
    | r + 1, ht, hm =>
      have htl : t < TL.length := by omega
      obtain ⟨⟨-, -, -, -, x5, x6⟩, -⟩ := laH_x TL 0 0 0 hL t htl
      rw [Nat.zero_add, Nat.zero_add] at x5
      have hmm := nOut_m2 TL (t := t + 1) (t' := TL.length) (by omega)
      rw [List.take_length] at hmm
      have htk := nOut_tk TL t htl
      refine m_f (fun z => absurd ((nI_leI (a := TL.length) (b := t) (by omega) (by omega)).mp z) (by omega)) (m_gr m103 rfl (m_gr m120 rfl (m_ai m123 (inb_nI (by omega) (by decide)) ?_)))
      rw [nI_clamp (n := t) (by omega), x5]
      exact w_tk103 fu MC MS cy ad mi hP0 hb0 hfr hK hl hT h104 hE eb e3 e8 ei hX htl (fun P' q' C' M' κ' σ' hI' hκ' => w_tk79 fu MC MS cy ad mi hfu hP0 hb0 hfr hK hl hT h104 hE eb e3 e8 ei hX hEnd r (t + 1) m P' q' C' M' κ' σ' (by omega) (by omega) hI' hκ') (TL.getD t d5).2.2.2.1.length (nOut (TL.take t)) fu P q C M κ σ (by omega) (Nat.le_refl _) (by omega) hI hκ
