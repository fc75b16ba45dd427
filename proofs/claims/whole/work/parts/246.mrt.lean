-- leaves in the memory; the Merkle root
set_option maxHeartbeats 400000 in
theorem w_Word (fu : Nat) {cy : Nat → ClassId} {P : Nat → Prop} {q : Nat → Nat} {C : Nat → va_E} {M : Mm} (hM : RG P q C M) (hq : IJ P q) {kx n o : Nat} {g : Nat → Int32} (hx : P kx) (ex : C kx = .inl (cy 0, n, .inl g)) (hn : n < 2 ^ 31) (ho : o + 4 ≤ n) (K : Int32 → Mm → Prop) (hK : ∀ M', RG P q C M' → K (nI (leP g o 4)) M') : ∃ (c87 : Nat) (c88 : Nat → Int32), mal M [((q kx), .inl (cy 0, c87, .inl c88))] ∧ mnd (List.map (fun x : Nat × va_E => x.1) [((q kx), .inl (cy 0, c87, .inl c88))]) ∧ ∃ (v89 : Int32), x_K_word fu c87 c88 (nI o) = some (v89) ∧ bnd (mov M [((q kx), .inl (cy 0, c87, .inl c88))]) fun M90 => K v89 M90 := by
  refine ⟨n, g, mal_c (g_at hM hx ex) (mal_n _), gnd hq [kx] (fun k hk => by rw [List.mem_singleton.mp hk]; exact hx) (List.nodup_cons.mpr ⟨List.not_mem_nil, List.nodup_nil⟩), _, v_K_word fu n hn g ho, ?_⟩
  have L := g_lf (K := fun M' => K (nI (leP g o 4)) M') hM hq C [kx] (fun k hk => by rw [List.mem_singleton.mp hk]; exact hx) (fun k _ _ => rfl) (fun M' hM' => hK M' hM')
  rw [List.map_cons, List.map_nil, ex] at L
  exact L
set_option maxHeartbeats 400000 in
theorem w_SameE (fu : Nat) {cy : Nat → ClassId} {P : Nat → Prop} {q : Nat → Nat} {C : Nat → va_E} {M : Mm} (hM : RG P q C M) (hq : IJ P q) {kx n a b l : Nat} {g : Nat → Int32} (hx : P kx) (ex : C kx = .inl (cy 0, n, .inl g)) (hn : n < 2 ^ 30) (ha : a + l ≤ n) (hb : b + l ≤ n) (hfu : l < fu) (K : Int32 → Mm → Prop) (hK : ∀ v M', RG P q C M' → tf (bl g a l = bl g b l) v → K v M') : ∃ (c87 : Nat) (c88 : Nat → Int32), mal M [((q kx), .inl (cy 0, c87, .inl c88))] ∧ mnd (List.map (fun x : Nat × va_E => x.1) [((q kx), .inl (cy 0, c87, .inl c88))]) ∧ ∃ (v89 : Int32), x_K_same_e20 fu c87 c88 (nI a) (nI b) (nI l) = some (v89) ∧ bnd (mov M [((q kx), .inl (cy 0, c87, .inl c88))]) fun M90 => K v89 M90 := by
  obtain ⟨v, hv1, hv2⟩ := v_K_same_e fu n g ha hb hn hfu
  refine ⟨n, g, mal_c (g_at hM hx ex) (mal_n _), gnd hq [kx] (fun k hk => by rw [List.mem_singleton.mp hk]; exact hx) (List.nodup_cons.mpr ⟨List.not_mem_nil, List.nodup_nil⟩), v, hv1, ?_⟩
  have L := g_lf (K := fun M' => K v M') hM hq C [kx] (fun k hk => by rw [List.mem_singleton.mp hk]; exact hx) (fun k _ _ => rfl) (fun M' hM' => hK v M' hM' hv2)
  rw [List.map_cons, List.map_nil, ex] at L
  exact L
set_option maxHeartbeats 400000 in
theorem w_Same (fu : Nat) {cy : Nat → ClassId} {P : Nat → Prop} {q : Nat → Nat} {C : Nat → va_E} {M : Mm} (hM : RG P q C M) (hq : IJ P q) {kx ky n m a b l : Nat} {g h : Nat → Int32} (hx : P kx) (hy : P ky) (hne : kx ≠ ky) (ex : C kx = .inl (cy 0, n, .inl g)) (ey : C ky = .inl (cy 0, m, .inl h)) (hn : n < 2 ^ 30) (hm : m < 2 ^ 30) (ha : a + l ≤ n) (hb : b + l ≤ m) (hfu : l < fu) (K : Int32 → Mm → Prop) (hK : ∀ v M', RG P q C M' → tf (bl g a l = bl h b l) v → K v M') : ∃ (c7 : Nat) (c8 : Nat → Int32) (c9 : Nat) (c10 : Nat → Int32), mal M [((q kx), .inl (cy 0, c7, .inl c8)), ((q ky), .inl (cy 0, c9, .inl c10))] ∧ mnd (List.map (fun x : Nat × va_E => x.1) [((q kx), .inl (cy 0, c7, .inl c8)), ((q ky), .inl (cy 0, c9, .inl c10))]) ∧ ∃ (v11 : Int32), x_K_same fu c7 c8 c9 c10 (nI a) (nI b) (nI l) = some (v11) ∧ bnd (mov M [((q kx), .inl (cy 0, c7, .inl c8)), ((q ky), .inl (cy 0, c9, .inl c10))]) fun M12 => K v11 M12 := by
  obtain ⟨v, hv1, hv2⟩ := v_K_same fu n m g h ha hb hn hm hfu
  have hin : ∀ k, k ∈ [kx, ky] → P k := fun k hk => by
    rcases List.mem_cons.mp hk with e | hk
    · rw [e]; exact hx
    · rw [List.mem_singleton.mp hk]; exact hy
  refine ⟨n, g, m, h, mal_c (g_at hM hx ex) (mal_c (g_at hM hy ey) (mal_n _)), gnd hq [kx, ky] hin (List.nodup_cons.mpr ⟨fun x => hne (List.mem_singleton.mp x), List.nodup_cons.mpr ⟨List.not_mem_nil, List.nodup_nil⟩⟩), v, hv1, ?_⟩
  have L := g_lf (K := fun M' => K v M') hM hq C [kx, ky] hin (fun k _ _ => rfl) (fun M' hM' => hK v M' hM' hv2)
  rw [List.map_cons, List.map_cons, List.map_nil, ex, ey] at L
  exact L
set_option maxHeartbeats 400000 in
theorem g_cy {cy : Nat → ClassId} {P : Nat → Prop} {q : Nat → Nat} {C : Nat → va_E} {M : Mm} {K : Mm → Prop} (hM : RG P q C M) (hq : IJ P q) {a b n0 n1 t : Nat} (ha : P a) (hb : P b) {f0 f1 : Nat → Int32} (ea' : C a = .inl (cy t, n0, .inl f0)) (eb : C b = .inl (cy t, n1, .inl f1)) {sp dp m : Nat} (h1 : sp + m ≤ n0) (h2 : dp + m ≤ n1) (h3 : n0 < 2 ^ 31) (h4 : n1 < 2 ^ 31) {fit : (Nat → Int32) → Bool} (hf : fit f0 = true) (hK : ∀ M', RG P q (va_up C b (.inl (cy t, n1, .inl (va_cpy f0 f1 sp dp m)))) M' → K M') : mcy M cy (q a) (q b) t (nI sp) (nI dp) (nI m) fit K := by
  refine ⟨n0, f0, n1, f1, g_at hM ha ea', g_at hM hb eb, cpk_nI h1 h2 h3 h4, hf, ?_⟩
  rw [nI_clamp (n := sp) (by omega), nI_clamp (n := dp) (by omega), nI_clamp (n := m) (by omega)]
  exact hK _ (RG_mu hM hq hb _)
set_option maxHeartbeats 400000 in
theorem laO_q {q q' : Nat → Nat} (h : ∀ j, 120 ≤ j → j < 130 → q' j = q j) (rv : Value) (a b c d e : Int32) : laO q' rv a b c d e = laO q rv a b c d e := by
  unfold laO
  rw [h 121 (by decide) (by decide), h 122 (by decide) (by decide), h 123 (by decide) (by decide), h 124 (by decide) (by decide), h 125 (by decide) (by decide), h 126 (by decide) (by decide), h 127 (by decide) (by decide), h 128 (by decide) (by decide), h 129 (by decide) (by decide)]
set_option maxHeartbeats 400000 in
theorem lyR_q {C C' : Nat → va_E} {q q' : Nat → Nat} {cy : Nat → ClassId} {rv : Value} {E : Nat} {TL : List Tx5} {u3 u4 u5 u6 u7 u8 u9 u10 u11 : Nat → Int32} (h : lyR C q cy rv E TL u3 u4 u5 u6 u7 u8 u9 u10 u11) (e : ∀ k, 120 ≤ k → k < 130 → C' k = C k ∧ q' k = q k) : lyR C' q' cy rv E TL u3 u4 u5 u6 u7 u8 u9 u10 u11 := by
  have h' := lyR_c h (fun k k1 k2 => (e k k1 k2).1)
  obtain ⟨⟨a0, a1⟩, a2⟩ := h'
  exact ⟨⟨a0.trans (laO_q (fun j j1 j2 => (e j j1 j2).2) _ _ _ _ _ _).symm, a1⟩, a2⟩
set_option maxHeartbeats 400000 in
theorem shX_q {C C' : Nat → va_E} {q q' : Nat → Nat} {cy : Nat → ClassId} (h : shX C q cy) (e : ∀ k, 106 ≤ k → k < 110 → C' k = C k ∧ q' k = q k) : shX C' q' cy := by
  obtain ⟨fl, ln, st, w, ck, e1, e2, e3, e4⟩ := h
  refine ⟨fl, ln, st, w, ck, (e 106 (by decide) (by decide)).1.trans (e1.trans ?_), (e 107 (by decide) (by decide)).1.trans e2, (e 108 (by decide) (by decide)).1.trans e3, (e 109 (by decide) (by decide)).1.trans e4⟩
  unfold shO
  rw [(e 107 (by decide) (by decide)).2, (e 108 (by decide) (by decide)).2, (e 109 (by decide) (by decide)).2]
set_option maxHeartbeats 400000 in
/-- the ids, in a new array under key kd -/
theorem w_ids (fu MC MS : Nat) (cy : Nat → ClassId) (ad : Nat → Nat) (mi : Nat) (hfu : 4000 ≤ fu) {P : Nat → Prop} {q : Nat → Nat} {C : Nat → va_E} {M : Mm} (hM : RG P q C M) (hq : IJ P q) (hP : ∀ k, k < 138 ∧ k ≠ 29 ∧ k ≠ 137 ∧ k ≠ 135 → P k) (hs : shX C q cy) {ks kd n1 E a0 : Nat} (hks : P ks) (hkd : ¬ P kd) (h1 : 102 ≤ ks ∧ (ks < 106 ∨ 138 ≤ ks)) {g : Nat → Int32} (hg : ∀ j, j < E → fits .byte (.int (g j)) = true) (hE : E ≤ n1) (hE3 : E ≤ 3000) (hn1 : n1 < 2 ^ 30) {TL : List Tx5} (hT : txB E TL a0) {u3 u4 u5 u6 u7 u8 u9 u10 u11 : Nat → Int32} (hL : lyR C q cy (.ref (q ks)) E TL u3 u4 u5 u6 u7 u8 u9 u10 u11) (eks : C ks = .inl (cy 0, n1, .inl g)) {Φ : Option Nat → Mm → Prop} {κ σ : Nat} (hκ : κ + 1 ≤ MC ∧ σ + (32 * TL.length + 32) ≤ MS) (hΦ : ∀ a M' C' d', RG (fun j => P j ∨ j = kd) (va_up q kd a) C' M' → IJ (fun j => P j ∨ j = kd) (va_up q kd a) → shX C' (va_up q kd a) cy → C' kd = .inl (cy 0, 32 * TL.length + 32, .inl d') → ftB d' → (∀ t, t < TL.length → ∀ j, j < 32 → d' (32 * t + j) = idL g TL t j) → (∀ j, 32 * TL.length ≤ j → d' j = 0) → fS kd C C' → Φ (some a) M') (hkd2 : 138 ≤ kd := by first | decide | omega | (simp only [kB]; omega)) : xw_mLa_ids fu MC MS cy ad mi Φ κ σ M (q 120) (q 106) := by
  have hn := txB_n TL a0 hT
  have mL := g_at hM (hP 120 (by decide)) hL.1.1
  unfold xw_mLa_ids
  refine m_gi mL rfl (m_bn (e' := nI (32 * TL.length)) (pk_mul 32 TL.length) (m_bn (e' := nI (32 * TL.length + 32)) (nI_add _ 32) ?_))
  rw [nI_clamp (n := 32 * TL.length + 32) (by omega)]
  refine ⟨⟨fun z => absurd ((nI_ltI (a := 32 * TL.length + 32) (b := 0) (by omega) (by omega)).mp z) (by omega), ?_⟩, hκ, g_nw hM hq hkd (fun a M2 hM2 hq2 => ?_)⟩
  · show (32 * TL.length + 32) * 1 ≤ 536870912
    omega
  have qe : ∀ j, P j → va_up q kd a j = q j := fun j hj => up_n (fun e => hkd (e ▸ hj))
  have ce : ∀ j, P j → va_up C kd (.inl (cy 0, 32 * TL.length + 32, .inl (fun _ => 0))) j = C j := fun j hj => up_n (fun e => hkd (e ▸ hj))
  have hne : ks ≠ kd := fun e => hkd (e ▸ hks)
  have key := w_ids15 fu MC MS cy ad mi hfu (P := fun j => P j ∨ j = kd) (q := va_up q kd a) hq2 (fun k hk => Or.inl (hP k hk)) (ks := ks) (kd := kd) (Or.inl hks) (Or.inr rfl) h1 hkd2 hne hg hE hE3 hn1 hT (C0 := va_up C kd (.inl (cy 0, 32 * TL.length + 32, .inl (fun _ => 0)))) (by rw [qe ks hks]; exact lyR_q hL (fun k k1 k2 => ⟨ce k (hP k (by omega)), qe k (hP k (by omega))⟩)) ((ce ks hks).trans eks) (Φ := Φ) (κ := κ + 1) (σ := σ + (32 * TL.length + 32)) (fun M' C' d' a1 a2 a3 a4 a5 a6 a7 => by
    rw [up_e]
    exact hΦ a M' C' d' a1 hq2 a2 a3 a4 a5 a6 (fun k k1 k2 => (a7 k k1 k2).trans (up_n k2))) TL.length 0 fu _ M2 (fun _ => 0) (Nat.zero_add _) (by omega) hM2 (shX_q hs (fun k k1 k2 => ⟨ce k (hP k (by omega)), qe k (hP k (by omega))⟩)) up_e (fun _ => show fits .byte (.int 0) = true by decide) (fun t' h => absurd h (Nat.not_lt_zero _)) (fun _ _ => rfl) (fun _ _ _ => rfl)
  rw [qe 120 (hP 120 (by decide)), qe 106 (hP 106 (by decide)), up_e] at key
  exact key
/-- a level of hashes in an array -/
def lvB (d : Nat → Int32) (a n : Nat) (H : Nat → Nat → Int32) : Prop := ∀ k, a ≤ k → k < n → ∀ j, j < 32 → d (32 * k + j) = H k j
set_option maxHeartbeats 1000000 in
theorem w_rt19 (fu MC MS : Nat) (cy : Nat → ClassId) (ad : Nat → Nat) (mi : Nat) (hfu : 4000 ≤ fu) {P : Nat → Prop} {q : Nat → Nat} (hq : IJ P q) (hP : ∀ k, k < 138 ∧ k ≠ 29 ∧ k ≠ 137 ∧ k ≠ 135 → P k) {kd m : Nat} (hkd : P kd) (h2 : 138 ≤ kd) (hm : m ≤ 20000) {C0 : Nat → va_E} {Φ : Int32 → Mm → Prop} (k11 : Nat → Nat → Mm → Nat → Nat → Nat → Int32 → Prop) {κ σ : Nat} {n : Nat} {H : Nat → Nat → Int32} (hn : 1 < n) (hn2 : n ≤ 300) (hm2 : 32 * n + 32 ≤ m) (hH : fH n H) (hD : ¬ fa (fun k => ¬ dpQ n H k) 0 ((n + 1) / 2) → ∀ M' C', RG P q C' M' → shX C' q cy → fS kd C0 C' → Φ 0 M') (hE : fa (fun k => ¬ dpQ n H k) 0 ((n + 1) / 2) → ∀ M' C' d', RG P q C' M' → shX C' q cy → C' kd = .inl (cy 0, m, .inl d') → ftB d' → lvB d' 0 ((n + 1) / 2) (nxH n H) → fS kd C0 C' → k11 κ σ M' (q 120) (q 106) (q kd) (nI ((n + 1) / 2))) : ∀ r k f C M d, k + r = (n + 1) / 2 → r < f → RG P q C M → shX C q cy → C kd = .inl (cy 0, m, .inl d) → ftB d → fa (fun k => ¬ dpQ n H k) 0 k → lvB d 0 k (nxH n H) → lvB d (2 * k) n H → fS kd C0 C → xw_mLa_rootIsRight_19 fu MC MS cy ad mi Φ k11 f κ σ M (q 120) (q 106) (q kd) (nI n) (nI (2 * k))
  | r, k, f + 1, C, M, d, hk, hf, hM, hs, hd, hfd, hno, hl, hr, hF => by
    show xv_mLa_rootIsRight_19 fu MC MS cy ad mi Φ k11 (xw_mLa_rootIsRight_19 fu MC MS cy ad mi Φ k11 f) κ σ M (q 120) (q 106) (q kd) (nI n) (nI (2 * k))
    unfold xv_mLa_rootIsRight_19
    match r, hk, hf with
    | 0, hk, hf =>
      have e : k = (n + 1) / 2 := by omega
      rw [e] at hno hl
      exact m_t ((nI_leI (a := n) (b := 2 * k) (by omega) (by omega)).mpr (by omega)) (m_bn (e' := nI (n + 1)) (nI_add n 1) (m_bn (e' := nI ((n + 1) / 2)) (pk_div (by omega) (by decide) (by decide)) (hE hno M C d hM hs hd hfd hl hF)))
    | r + 1, hk, hf =>
      refine m_f (fun z => absurd ((nI_leI (a := n) (b := 2 * k) (by omega) (by omega)).mp z) (by omega)) (m_bn (e' := nI (2 * k + 1)) (nI_add (2 * k) 1) ?_)
      -- the hash of the pair
      have TWO : ∀ C M d, RG P q C M → shX C q cy → C kd = .inl (cy 0, m, .inl d) → ftB d → ¬ dpQ n H k → lvB d 0 k (nxH n H) → (∀ j, j < 64 → d (64 * k + j) = prH (H (2 * k)) (H (otH n k)) j) → lvB d (2 * k + 2) n H → fS kd C0 C → xv_mLa_rootIsRight_81 fu MC MS cy ad mi Φ k11 (xw_mLa_rootIsRight_19 fu MC MS cy ad mi Φ k11 f) κ σ M (q 120) (q 106) (q kd) (nI n) (nI (2 * k)) := by
        intro C M d hM hs hd hfd hnd hl hpr hr hF
        unfold xv_mLa_rootIsRight_81
        refine m_bn (e' := nI (64 * k)) ((pk_mul 32 (2 * k)).trans (congrArg nI (by omega))) (m_bn (e' := nI (32 * k)) ((pk_mul 16 (2 * k)).trans (congrArg nI (by omega))) ?_)
        refine w_TwE fu hfu hM hq hP hs hkd (by omega) hd (by omega) (a := 64 * k) (N := 64) (o := 32 * k) (by decide) (by omega) (by omega) hfd _ (fun M' C' d' hM' hs' hd' hj hF' => m_bn (e' := nI (2 * (k + 1))) (nI_add (2 * k) 2) ?_)
        refine w_rt19 fu MC MS cy ad mi hfu hq hP hkd h2 hm k11 hn hn2 hm2 hH hD hE r (k + 1) f C' M' d' (by omega) (by omega) hM' hs' hd' (ftB_r hfd (fun j => dbl_f _ _ j) hj) (fun x _ hx => ?_) (fun x _ hx j hj' => ?_) (fun x hx hx2 j hj' => ?_) (fS_t hF hF')
        · by_cases e : x = k
          · rw [e]; exact hnd
          · exact hno x (Nat.zero_le _) (by omega)
        · rw [hj]
          by_cases e : x = k
          · subst e
            rw [if_pos (by omega), Nat.add_sub_cancel_left]
            unfold nxH
            rw [dbl_c (m := fun i => d (64 * x + i)) (m' := prH (H (2 * x)) (H (otH n x))) (n := 64) hpr]
          · rw [if_neg (by omega)]
            exact hl x (Nat.zero_le _) (by omega) j hj'
        · rw [hj, if_neg (by omega)]
          exact hr x (by omega) hx2 j hj'
      by_cases g : 2 * k + 1 = n
      · refine m_t (congrArg nI g) ?_
        refine m_bn (e' := nI (64 * k)) ((pk_mul 32 (2 * k)).trans (congrArg nI (by omega))) (m_bn (e' := nI (64 * k)) ((pk_mul 32 (2 * k)).trans (congrArg nI (by omega))) (m_bn (e' := nI (64 * k + 32)) (nI_add (64 * k) 32) ?_))
        have hbf : bfit d (nI (64 * k)) (nI 32) = true := bfit_nI (by omega) (by decide) (fun j _ => hfd _)
        refine g_cy hM hq hkd hkd hd hd (sp := 64 * k) (dp := 64 * k + 32) (m := 32) (by omega) (by omega) (by omega) (by omega) hbf (fun M' hM' => ?_)
        have hr0 := hr (2 * k) (Nat.le_refl _) (by omega)
        refine TWO _ M' (va_cpy d d (64 * k) (64 * k + 32) 32) hM' (shX_q hs (fun j j1 j2 => ⟨up_n (by omega), rfl⟩)) up_e (cpy_fB hfd (fun j _ => hfd _)) (fun z => absurd z.1 (by omega)) (fun x _ hx j hj => ?_) (fun j hj => ?_) (fun x hx hx2 => absurd hx2 (by omega)) (fS_t hF (fun j _ j2 => up_n j2))
        · rw [pk_cpy_out (by omega)]
          exact hl x (Nat.zero_le _) hx j hj
        · unfold prH otH
          rw [if_neg (show ¬ 2 * k + 1 < n by omega)]
          by_cases z : j < 32
          · rw [if_pos z, pk_cpy_out (by omega), ← hr0 j z]
            congr 1
            omega
          · rw [if_neg z, pk_cpy_in (by omega) (by omega), ← hr0 (j - 32) (by omega)]
            congr 1
            omega
      · refine m_f (fun z => g ((nI_eq32 (a := 2 * k + 1) (b := n) (by omega) (by omega)).mp z)) ?_
        refine m_bn (e' := nI (64 * k)) ((pk_mul 32 (2 * k)).trans (congrArg nI (by omega))) (m_bn (e' := nI (64 * k)) ((pk_mul 32 (2 * k)).trans (congrArg nI (by omega))) (m_bn (e' := nI (64 * k + 32)) (nI_add (64 * k) 32) ?_))
        refine w_SameE fu hM hq hkd hd (by omega) (a := 64 * k) (b := 64 * k + 32) (l := 32) (by omega) (by omega) (by omega) (fun v M10 => if v = 0 then xv_mLa_rootIsRight_81 fu MC MS cy ad mi Φ k11 (xw_mLa_rootIsRight_19 fu MC MS cy ad mi Φ k11 f) κ σ M10 (q 120) (q 106) (q kd) (nI n) (nI (2 * k)) else Φ 0 M10) (fun v M' hM' hv => ?_)
        have hr0 := hr (2 * k) (Nat.le_refl _) (by omega)
        have hr1 := hr (2 * k + 1) (by omega) (by omega)
        have e1 : bl d (64 * k) 32 = bl (H (2 * k)) 0 32 := bl_c _ _ _ fun i hi => by rw [Nat.zero_add, ← hr0 i hi]; congr 1; omega
        have e2 : bl d (64 * k + 32) 32 = bl (H (2 * k + 1)) 0 32 := bl_c _ _ _ fun i hi => by rw [Nat.zero_add, ← hr1 i hi]; congr 1; omega
        rw [e1, e2] at hv
        rcases hv with ⟨y, e⟩ | ⟨y, e⟩
        · subst e
          exact m_f (by decide) (hD (fun z => z k (Nat.zero_le _) (by omega) ⟨by omega, y⟩) M' C hM' hs hF)
        · subst e
          refine m_t rfl (TWO C M' d hM' hs hd hfd (fun z => y z.2) hl (fun j hj => ?_) (fun x hx hx2 => hr x (by omega) hx2) hF)
          unfold prH otH
          rw [if_pos (show 2 * k + 1 < n by omega)]
          by_cases z : j < 32
          · rw [if_pos z, ← hr0 j z]
            congr 1
            omega
          · rw [if_neg z, ← hr1 (j - 32) (by omega)]
            congr 1
            omega
set_option maxHeartbeats 1000000 in
theorem w_rt11 (fu MC MS : Nat) (cy : Nat → ClassId) (ad : Nat → Nat) (mi : Nat) (hfu : 4000 ≤ fu) {P : Nat → Prop} {q : Nat → Nat} (hq : IJ P q) (hP : ∀ k, k < 138 ∧ k ≠ 29 ∧ k ≠ 137 ∧ k ≠ 135 → P k) {kd m : Nat} (hkd : P kd) (h2 : 138 ≤ kd) (hm : m ≤ 20000) {C0 : Nat → va_E} {Φ : Int32 → Mm → Prop} {κ σ : Nat} {ks n1 E : Nat} (hks : P ks) (h1 : 102 ≤ ks ∧ (ks < 106 ∨ 138 ≤ ks)) (hne : ks ≠ kd) {g : Nat → Int32} (h68 : 68 ≤ n1) (hn1 : n1 < 2 ^ 30) {TL : List Tx5} {u3 u4 u5 u6 u7 u8 u9 u10 u11 : Nat → Int32} (hL : lyR C0 q cy (.ref (q ks)) E TL u3 u4 u5 u6 u7 u8 u9 u10 u11) (eks : C0 ks = .inl (cy 0, n1, .inl g)) : ∀ f n x H C M d, n ≤ 2 ^ f → n ≤ 300 → 32 * n + 32 ≤ m → f < x → RG P q C M → shX C q cy → C kd = .inl (cy 0, m, .inl d) → ftB d → lvB d 0 n H → fH n H → (n = 0 → ∀ j, j < 32 → d j = 0) → fS kd C0 C → (∀ v M' C', tf (rtQ (bl g 36 32) (f + 1) n H) v → RG P q C' M' → shX C' q cy → fS kd C0 C' → Φ v M') → xw_mLa_rootIsRight_11 fu MC MS cy ad mi Φ x κ σ M (q 120) (q 106) (q kd) (nI n) := by
  have E1 : ∀ f n x H C M d, n ≤ 1 → 32 * n + 32 ≤ m → RG P q C M → shX C q cy → C kd = .inl (cy 0, m, .inl d) → lvB d 0 n H → (n = 0 → ∀ j, j < 32 → d j = 0) → fS kd C0 C → (∀ v M' C', tf (rtQ (bl g 36 32) (f + 1) n H) v → RG P q C' M' → shX C' q cy → fS kd C0 C' → Φ v M') → xv_mLa_rootIsRight_11 fu MC MS cy ad mi Φ x κ σ M (q 120) (q 106) (q kd) (nI n) := by
    intro f n x H C M d hn hm2 hM hs hd hl hz hF hΦ
    unfold xv_mLa_rootIsRight_11
    have a0 := (lyR_c hL (C' := C) (fun k k1 k2 => hF k (Or.inr (by omega)) (by omega))).1.1
    have mL := g_at hM (hP 120 (by decide)) a0
    refine m_t ((nI_leI (a := n) (b := 1) (by omega) (by omega)).mpr hn) (m_grp mL (x := q ks) rfl (m_f (fun z => hne (hq _ _ hkd hks z).symm) ?_))
    refine w_Same fu hM hq hkd hks (fun e => hne e.symm) hd ((hF ks (by omega) hne).trans eks) (by omega) hn1 (a := 0) (b := 36) (l := 32) (by omega) (by omega) (by omega) (fun v M12 => gdP (isb v) <| Φ v M12) (fun v M' hM' hv => ?_)
    have hQ : tf (rtQ (bl g 36 32) (f + 1) n H) v := by
      refine tf_c ?_ hv
      show _ ↔ if n ≤ 1 then _ else _
      rw [if_pos hn]
      have e : bl d 0 32 = bl (if n = 0 then fun _ => 0 else H 0) 0 32 := bl_c _ _ _ fun i hi => by
        rw [Nat.zero_add]
        by_cases z : n = 0
        · rw [if_pos z]; exact hz z i hi
        · rw [if_neg z]
          have := hl 0 (Nat.le_refl _) (by omega) i hi
          rw [Nat.mul_zero, Nat.zero_add] at this
          exact this
      rw [e]
    exact ⟨tf_isb hv, hΦ v M' C hQ hM' hs hF⟩
  intro f
  induction f with
  | zero =>
    intro n x H C M d h1' h2' hm2 hx hM hs hd hfd hl hH hz hF hΦ
    match x, hx with
    | x + 1, hx => exact E1 0 n (xw_mLa_rootIsRight_11 fu MC MS cy ad mi Φ x) H C M d h1' hm2 hM hs hd hl hz hF hΦ
  | succ f ih =>
    intro n x H C M d h1' h2' hm2 hx hM hs hd hfd hl hH hz hF hΦ
    match x, hx with
    | x + 1, hx =>
      by_cases c : n ≤ 1
      · exact E1 (f + 1) n (xw_mLa_rootIsRight_11 fu MC MS cy ad mi Φ x) H C M d c hm2 hM hs hd hl hz hF hΦ
      · show xv_mLa_rootIsRight_11 fu MC MS cy ad mi Φ (xw_mLa_rootIsRight_11 fu MC MS cy ad mi Φ x) κ σ M (q 120) (q 106) (q kd) (nI n)
        unfold xv_mLa_rootIsRight_11
        have eQ : rtQ (bl g 36 32) (f + 1 + 1) n H ↔ fa (fun k => ¬ dpQ n H k) 0 ((n + 1) / 2) ∧ rtQ (bl g 36 32) (f + 1) ((n + 1) / 2) (nxH n H) := by
          show (if n ≤ 1 then _ else _) ↔ _
          rw [if_neg c]
        have h2f : n ≤ 2 * 2 ^ f := by rw [Nat.pow_succ] at h1'; omega
        refine m_f (fun z => c ((nI_leI (a := n) (b := 1) (by omega) (by omega)).mp z)) ?_
        refine w_rt19 fu MC MS cy ad mi hfu hq hP hkd h2 hm (C0 := C0) (Φ := Φ) _ (n := n) (H := H) (by omega) h2' hm2 hH (fun z M' C' b1 b2 b3 => hΦ 0 M' C' (tf_0 fun w => z (eQ.mp w).1) b1 b2 b3) (fun z M' C' d' b1 b2 b3 b4 b5 b6 => ?_) ((n + 1) / 2) 0 fu C M d (Nat.zero_add _) (by omega) hM hs hd hfd (fun x _ hx => absurd hx (Nat.not_lt_zero _)) (fun x _ hx => absurd hx (Nat.not_lt_zero _)) hl hF
        refine ih ((n + 1) / 2) x (nxH n H) C' M' d' (by omega) (by omega) (by omega) (by omega) b1 b2 b3 b4 b5 (nxH_f _ _ _) (fun e => absurd e (by omega)) b6 (fun v M'' C'' c1 c2 c3 c4 => hΦ v M'' C'' (tf_c ⟨fun w => eQ.mpr ⟨z, w⟩, fun w => (eQ.mp w).2⟩ c1) c2 c3 c4)
