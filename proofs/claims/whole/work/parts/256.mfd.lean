-- the ledger in the memory: find
set_option maxHeartbeats 400000 in
theorem find_at (p : Cn → Bool) : ∀ (L : List Cn) (i : Nat), i < L.length → (∀ j, j < i → p (L.getD j e_C) = false) → p (L.getD i e_C) = true → L.find? p = some (L.getD i e_C)
  | [], i, h, _, _ => absurd h (Nat.not_lt_zero _)
  | c :: L, 0, _, _, e => by
    replace e : p c = true := e
    rw [List.find?_cons, e]
    rfl
  | c :: L, i + 1, h, hn, e => by
    have h0 : p c = false := hn 0 (Nat.succ_pos _)
    have ih := find_at p L i (Nat.lt_of_succ_lt_succ h) (fun j hj => hn (j + 1) (Nat.succ_lt_succ hj)) e
    rw [List.find?_cons, h0]
    exact ih
set_option maxHeartbeats 400000 in
theorem fnd_at (rw : Nat → List Int32) (K : List Int32 × Nat) (L : List Cn) (i : Nat) (h : i < L.length) (hn : ∀ j, j < i → cnK rw (L.getD j e_C) ≠ K) (e : cnK rw (L.getD i e_C) = K) : fnd rw L K = some (L.getD i e_C) := find_at (fun c => decide (cnK rw c = K)) L i h (fun j hj => decide_eq_false (hn j hj)) (decide_eq_true e)
set_option maxHeartbeats 400000 in
theorem fnd_no {rw : Nat → List Int32} {K : List Int32 × Nat} {L : List Cn} (h : ∀ j, j < L.length → cnK rw (L.getD j e_C) ≠ K) : fnd rw L K = none := by
  unfold fnd
  refine List.find?_eq_none.mpr fun x hx => ?_
  obtain ⟨j, hj, e⟩ := me_gD hx
  have := h j hj
  rw [e] at this
  exact fun z => this (of_decide_eq_true z)
set_option maxHeartbeats 4000000 in
theorem w_fd10 (fu MC MS : Nat) (cy : Nat → ClassId) (ad : Nat → Nat) (mi : Nat) (hfu : 40 ≤ fu) {P : Nat → Prop} {q : Nat → Nat} {C : Nat → va_E} {nb : Nat} {par hgt tim : Nat → Nat} {bit : Nat → Int32} {bad : Nat → Bool} {rw : Nat → List Int32} {vl : Nat → Bool} {mk : Nat → Nat} {sl : Cn → Int32} {L H : List Cn} {cu ch : Nat} (hS : ldS P q C cy ad nb par hgt tim bit bad rw vl mk sl L H cu ch) (hr0 : TLb rw 0 = []) (hO : oK rw nb) {kx n a idx : Nat} {g : Nat → Int32} (hx : P kx) (ex : C kx = .inl (cy 0, n, .inl g)) (hn : n ≤ 10000) (ha : a + 32 ≤ n) (hidx : idx < 2 ^ 32) {κ σ : Nat} (hκ : κ ≤ MC ∧ σ ≤ MS) {Φ : Option Nat → Mm → Prop} (hΦ : ∀ M', RG P q C M' → Φ ((fnd rw L (bl g a 32, idx)).map fun c => q (ck rw c)) M') : ∀ r i m (M : Mm), i + r = L.length → r < m → RG P q C M → (∀ j, j < i → cnK rw (L.getD j e_C) ≠ (bl g a 32, idx)) → xw_mLe_find_10 fu MC MS cy ad mi Φ m κ σ M (q 130) (q kx) (nI a) (nI idx) (nI (leP g a 4)) (nI i)
  | r, i, m + 1, M, hi, hm, hM, hno => by
    show xv_mLe_find_10 fu MC MS cy ad mi Φ (xw_mLe_find_10 fu MC MS cy ad mi Φ m) κ σ M (q 130) (q kx) (nI a) (nI idx) (nI (leP g a 4)) (nI i)
    unfold xv_mLe_find_10
    obtain ⟨⟨hq, hP, h223, had⟩, hB, h130, hLu, hLh, hvL, hvH, hnd, hsi, hsn⟩ := id hS
    have m130 := g_at hM (hP 130 (by decide)) h130
    obtain ⟨ll, lc, ee, mm, h131⟩ := al_s hLu
    rw [List.length_map] at ll
    have m131 := g_at hM (hP 131 (by decide)) h131
    refine m_gr m130 rfl (m_ck m131 ⟨0, 0, hκ, w_Size fu 0 0 cy ad mi hM hLu ?_⟩)
    rw [List.length_map]
    match r, hi, hm with
    | 0, hi, hm =>
      have e : i = L.length := by omega
      subst e
      have := hΦ M hM
      rw [fnd_no hno] at this
      exact m_t ((nI_leI (a := L.length) (b := L.length) (by omega) (by omega)).mpr (Nat.le_refl _)) this
    | r + 1, hi, hm =>
      have hiL : i < L.length := by omega
      refine m_f (fun z => absurd ((nI_leI (a := L.length) (b := i) (by omega) (by omega)).mp z) (by omega)) (m_gr m130 rfl (m_ck m131 ⟨0, 0, hκ, w_Get fu 0 0 cy ad mi hM hLu (i := i) (by rw [List.length_map]; exact hiL) ⟨Nat.le_refl _, Nat.le_refl _⟩ ?_⟩))
      rw [gDc hiL]
      obtain ⟨c, hce⟩ : ∃ c, c = L.getD i e_C := ⟨_, rfl⟩
      rw [← hce]
      have hcL : c ∈ L := hce ▸ gDe hiL
      have hc := hvL c hcL
      obtain ⟨pc, cc⟩ := hB.2 c hc
      have mc := g_at hM pc cc
      obtain ⟨⟨p0, -, -, p3, -⟩, c0, -, -, ⟨n3, g3, c3, n3b, n3e, h3⟩, -⟩ := hB.1 c.1 hc.1.1
      have m0 := g_at hM p0 c0
      have hb0 : 0 < c.1 := by
        rcases Nat.eq_zero_or_pos c.1 with z | z
        · have := hc.1.2
          rw [z, hr0] at this
          exact absurd this (Nat.not_lt_zero _)
        · exact z
      have hn3 := n3e hb0
      have ht := hc.1.2
      have h333 : c.2.2 < 2 ^ 32 := by
        have := hO c hc
        unfold ckO at this
        omega
      have eI : bl g3 (32 * c.2.1) 32 = cnI rw c := bl_c _ _ _ fun j hj => by
        rw [Nat.zero_add]
        exact h3 c.2.1 ht j hj
      have NX : ∀ M', RG P q C M' → cnK rw c ≠ (bl g a 32, idx) → xv_mLe_find_81 fu MC MS cy ad mi Φ (xw_mLe_find_10 fu MC MS cy ad mi Φ m) (κ + 0 + 0) (σ + 0 + 0) M' (q 130) (q kx) (nI a) (nI idx) (nI (leP g a 4)) (nI i) := fun M' hM' hk => by
        unfold xv_mLe_find_81
        refine m_bn (e' := nI (i + 1)) (nI_add i 1) (w_fd10 fu MC MS cy ad mi hfu hS hr0 hO hx ex hn ha hidx hκ hΦ r (i + 1) m M' (by omega) (by omega) hM' (fun j hj => ?_))
        by_cases z : j = i
        · rw [z, ← hce]; exact hk
        · exact hno j (by omega)
      have YS : ∀ M', RG P q C M' → cnK rw c = (bl g a 32, idx) → Φ (some (q (ck rw c))) M' := fun M' hM' hk => by
        have := hΦ M' hM'
        rw [fnd_at rw _ L i hiL hno (by rw [← hce]; exact hk), ← hce] at this
        exact this
      refine ⟨_, rfl, m_ck mc (m_gi mc rfl ?_)⟩
      by_cases g1 : leP (idT rw c.1 c.2.1) 0 4 = leP g a 4
      rotate_left
      · refine m_f (fun z => g1 ((nI_eq32 (leP_lt _ _ 4) (leP_lt _ _ 4)).mp z)) (NX M hM fun z => g1 ?_)
        have z1 : bl (idT rw c.1 c.2.1) 0 32 = bl g a 32 := congrArg Prod.fst z
        exact leP_cs (fun j hj => bl_i z1 (by omega))
      refine m_t (congrArg nI g1) (m_gi mc rfl ?_)
      by_cases g2 : c.2.2 = idx
      rotate_left
      · exact m_f (fun z => g2 ((nI_eq32 h333 hidx).mp z)) (NX M hM fun z => g2 (congrArg Prod.snd z))
      refine m_t (congrArg nI g2) (m_gr mc rfl (m_gr m0 rfl (m_gi mc rfl ?_)))
      have hv : ∀ v, tf (bl g3 (32 * c.2.1) 32 = bl g a 32) v → (v = 0 → cnK rw c ≠ (bl g a 32, idx)) ∧ (v ≠ 0 → cnK rw c = (bl g a 32, idx)) := fun v hv => by
        rw [eI] at hv
        rcases hv with ⟨y, e⟩ | ⟨y, e⟩
        · refine ⟨fun z => absurd (e.symm.trans z) (by decide), fun _ => ?_⟩
          unfold cnK
          rw [y, g2]
        · exact ⟨fun _ z => y (congrArg Prod.fst z), fun z => absurd e z⟩
      by_cases al : kB c.1 + 3 = kx
      · subst al
        rw [ex] at c3
        have e1 := Sum.inl.inj c3
        have e2 : n = n3 := congrArg (fun z => z.2.1) e1
        have e3 : g = g3 := Sum.inl.inj (congrArg (fun z => z.2.2) e1)
        refine m_t rfl (w_SameE fu hM hq p3 ex (by omega) (a := 32 * c.2.1) (b := a) (l := 32) (by omega) ha (by omega) (fun v M24 => if v = 0 then (xv_mLe_find_81 fu MC MS cy ad mi Φ (xw_mLe_find_10 fu MC MS cy ad mi Φ m) (κ + 0 + 0) (σ + 0 + 0) M24 (q 130) (q (kB c.1 + 3)) (nI a) (nI idx) (nI (leP g a 4)) (nI i)) else (Φ (some (q (ck rw c))) M24)) (fun v M' hM' hv' => ?_))
        rw [e3] at hv'
        rw [e3] at hv
        obtain ⟨v1, v2⟩ := hv v hv'
        rw [← e3] at v1 v2
        by_cases z : v = 0
        · exact m_t z (NX M' hM' (v1 z))
        · exact m_f z (YS M' hM' (v2 z))
      · refine m_f (fun z => al (hq _ _ p3 hx z)) (w_Same fu hM hq p3 hx al c3 ex (by omega) (by omega) (a := 32 * c.2.1) (b := a) (l := 32) (by omega) ha (by omega) (fun v M24 => if v = 0 then (xv_mLe_find_81 fu MC MS cy ad mi Φ (xw_mLe_find_10 fu MC MS cy ad mi Φ m) (κ + 0 + 0) (σ + 0 + 0) M24 (q 130) (q kx) (nI a) (nI idx) (nI (leP g a 4)) (nI i)) else (Φ (some (q (ck rw c))) M24)) (fun v M' hM' hv' => ?_))
        obtain ⟨v1, v2⟩ := hv v hv'
        by_cases z : v = 0
        · exact m_t z (NX M' hM' (v1 z))
        · exact m_f z (YS M' hM' (v2 z))
set_option maxHeartbeats 400000 in
theorem w_find (fu MC MS : Nat) (cy : Nat → ClassId) (ad : Nat → Nat) (mi : Nat) (hfu : 40 ≤ fu) {P : Nat → Prop} {q : Nat → Nat} {C : Nat → va_E} {M : Mm} (hM : RG P q C M) {nb : Nat} {par hgt tim : Nat → Nat} {bit : Nat → Int32} {bad : Nat → Bool} {rw : Nat → List Int32} {vl : Nat → Bool} {mk : Nat → Nat} {sl : Cn → Int32} {L H : List Cn} {cu ch : Nat} (hS : ldS P q C cy ad nb par hgt tim bit bad rw vl mk sl L H cu ch) (hr0 : TLb rw 0 = []) (hO : oK rw nb) (hfL : L.length < fu) {kx n a idx : Nat} {g : Nat → Int32} (hx : P kx) (ex : C kx = .inl (cy 0, n, .inl g)) (hn : n ≤ 10000) (ha : a + 32 ≤ n) (hidx : idx < 2 ^ 32) {κ σ : Nat} (hκ : κ ≤ MC ∧ σ ≤ MS) {Φ : Option Nat → Mm → Prop} (hΦ : ∀ M', RG P q C M' → Φ ((fnd rw L (bl g a 32, idx)).map fun c => q (ck rw c)) M') : xw_mLe_find fu MC MS cy ad mi Φ κ σ M (q 130) (q kx) (nI a) (nI idx) := by
  unfold xw_mLe_find
  exact w_Word fu hM hS.1.1 hx ex (by omega) (o := a) (by omega) _ (fun M' hM' => w_fd10 fu MC MS cy ad mi hfu hS hr0 hO hx ex hn ha hidx hκ hΦ L.length 0 fu M' (Nat.zero_add _) hfL hM' (fun j h => absurd h (Nat.not_lt_zero _)))
