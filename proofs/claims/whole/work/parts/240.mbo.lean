-- blocks in the memory: the bits wanted, the block of an id
set_option maxHeartbeats 1000000 in
theorem w_want (fu MC MS : Nat) (cy : Nat → ClassId) (ad : Nat → Nat) (mi : Nat) (hfu : 300 ≤ fu) {P : Nat → Prop} {q : Nat → Nat} {C : Nat → va_E} {M : Mm} (hM : RG P q C M) {nb : Nat} {par hgt tim : Nat → Nat} {bit : Nat → Int32} {bad : Nat → Bool} {rw : Nat → List Int32} {vl : Nat → Bool} {mk : Nat → Nat} {sl : Cn → Int32} (hB : bkR P q C cy nb par hgt tim bit bad rw vl mk sl) (hnb : nb ≤ 200) (hp : ∀ k, 0 < k → par k < k) (hh : hgt 0 = 0 ∧ ∀ k, 0 < k → k < nb → hgt k = hgt (par k) + 1) (hh2 : ∀ k, k < nb → hgt k ≤ 57) (ht : ∀ k, k < nb → gT (bit k) (hgt k / 8) ∧ tim k < 2 ^ 32) {b : Nat} (hb : b < nb) {κ σ : Nat} (hκ : κ ≤ MC ∧ σ ≤ MS) {Φ : Int32 → Mm → Prop} (hΦ : ∀ y, wnQ par hgt tim bit b y → Φ y M) : xw_mBl_wantedBits fu MC MS cy ad mi Φ κ σ M (q (kB b)) := by
  obtain ⟨⟨p0, -⟩, c0, -⟩ := hB.1 b hb
  have hm := g_at hM p0 c0
  have h57 := hh2 b hb
  unfold xw_mBl_wantedBits
  refine m_gi hm rfl (m_bn (e' := nI (hgt b + 1)) (nI_add _ 1) ?_)
  have er : nI (hgt b + 1) - nI (hgt b + 1) / 8 * 8 = nI ((hgt b + 1) % 8) := by
    rw [show (8 : Int32) = nI 8 from rfl, pk_div (by omega) (by decide) (by decide), pk_mul, nI_sb (by omega)]
    congr 1
    omega
  rw [er]
  by_cases g : (hgt b + 1) % 8 = 0
  · refine m_t (by rw [g]; rfl) (m_gj hm rfl (m_gi hm rfl (m_bn (e' := nI (hgt b + 1)) (nI_add _ 1) (m_bn (e' := nI (hgt b + 1 - 8)) (nI_sb (b := 8) (by omega)) (m_ck hm ⟨0, 0, hκ, ?_⟩)))))
    unfold xw_mBl_ancestor
    refine w_anc fu 0 0 cy ad mi hM hB hp hh (fun k hk => Nat.le_trans (hh2 k hk) (by decide)) (by omega) b fu hb (by omega) ⟨_, rfl, ?_⟩
    rw [show hgt b - (hgt b + 1 - 8) = 7 from by omega]
    have hcI : chI nb par hgt := ⟨by omega, hh.1, fun k hk hk' => ⟨hp k hk, hh.2 k hk hk'⟩⟩
    have hu := (up_b hcI 7 b hb (by omega)).1
    obtain ⟨⟨p1, -⟩, c1, -⟩ := hB.1 _ hu
    refine m_gj (g_at hM p1 c1) rfl (m_b (m_gi hm rfl (m_b (m_bn (tkT_e (ht b hb).2 (ht _ hu).2) ⟨mal_n _, ?_, ?_⟩))))
    · exact trivial
    obtain ⟨e, m, g1, g2⟩ := (ht b hb).1
    obtain ⟨y, hy1, hy2⟩ := v_scaledBits fu (by omega) g1 (t := tkT (tim b) (tim (up par 7 b))) (by unfold tkT; omega) (by unfold tkT; omega)
    refine ⟨y, hy1, hΦ y (Or.inr ⟨g, ?_⟩)⟩
    rw [tgB_e g1]
    exact hy2
  · refine m_f (fun x => g ((nI_eq32 (a := (hgt b + 1) % 8) (b := 0) (by omega) (by omega)).mp x)) (m_gi hm rfl (hΦ _ (Or.inl ⟨g, rfl⟩)))
def kpO (q : Nat → Nat) (rl : Int32) (tp : Nat) (tk ch : Int32) : va_E := .inr (0, [.ref (q 104), .int rl, .ref (q 105), .ref (q 106), .ref (q 0), .ref (q 110), .ref (q 120), .ref (q 130), .ref (q 133), .ref (q 134), .ref (q (kB tp)), .int tk, .int ch])
def blL (nb : Nat) : List Nat := (List.range nb).map kB
set_option maxHeartbeats 1000000 in
theorem blL_g {nb i : Nat} (h : i < nb) : (blL nb).getD i 0 = kB i := by
  unfold blL
  rw [List.getD_eq_getElem?_getD, List.getElem?_map, List.getElem?_range h]
  rfl
set_option maxHeartbeats 1000000 in
theorem blL_l (nb : Nat) : (blL nb).length = nb := by
  unfold blL
  rw [List.length_map, List.length_range]
set_option maxHeartbeats 1000000 in
theorem w_bOf (fu MC MS : Nat) (cy : Nat → ClassId) (ad : Nat → Nat) (mi : Nat) (hfu : 40 ≤ fu) {P : Nat → Prop} {q : Nat → Nat} {C : Nat → va_E} (hq : IJ P q) {nb : Nat} {par hgt tim : Nat → Nat} {bit : Nat → Int32} {bad : Nat → Bool} {rw : Nat → List Int32} {vl : Nat → Bool} {mk : Nat → Nat} {sl : Cn → Int32} (hB : bkR P q C cy nb par hgt tim bit bad rw vl mk sl) (hnb : nb ≤ 200) {rl tk ch : Int32} {tp cap : Nat} (h103 : P 103) (hK : C 103 = kpO q rl tp tk ch) (hL : alR P q C cy 133 222 (blL nb) cap) {kx n a : Nat} {g : Nat → Int32} (hx : P kx) (hx2 : kx < 256) (hg : C kx = .inl (cy 0, n, .inl g)) (ha : a + 32 ≤ n) (hn : n ≤ 3000) {κ σ : Nat} (hκ : κ ≤ MC ∧ σ ≤ MS) {Φ : Option Nat → Mm → Prop} (h0 : ∀ M', RG P q C M' → (∀ b, b < nb → bl (bIf rw b) 0 32 ≠ bl g a 32) → Φ none M') (h1 : ∀ M' b, RG P q C M' → b < nb → bl (bIf rw b) 0 32 = bl g a 32 → (∀ b', b' < b → bl (bIf rw b') 0 32 ≠ bl g a 32) → Φ (some (q (kB b))) M') : ∀ r i m (M : Mm), i + r = nb → r < m → RG P q C M → (∀ b', b' < i → bl (bIf rw b') 0 32 ≠ bl g a 32) → xw_mK_blockOf_2 fu MC MS cy ad mi Φ m κ σ M (q 103) (q kx) (nI a) (nI i)
  | r, i, m + 1, M, hi, hm, hM, hno => by
    show xv_mK_blockOf_2 fu MC MS cy ad mi Φ (xw_mK_blockOf_2 fu MC MS cy ad mi Φ m) κ σ M (q 103) (q kx) (nI a) (nI i)
    unfold xv_mK_blockOf_2
    have m103 := g_at hM h103 hK
    obtain ⟨-, -, e, mc, h133⟩ := al_s hL
    have m133 := g_at hM hL.1 h133
    refine m_gr m103 rfl (m_ck m133 ⟨0, 0, hκ, w_Size fu 0 0 cy ad mi hM hL ?_⟩)
    rw [blL_l]
    match r, hi, hm with
    | 0, hi, hm =>
      refine m_t ((nI_leI (a := nb) (b := i) (by omega) (by omega)).mpr (by omega)) (h0 M hM (fun b hb => hno b (by omega)))
    | r + 1, hi, hm =>
      refine m_f (fun x => absurd ((nI_leI (a := nb) (b := i) (by omega) (by omega)).mp x) (by omega)) (m_gr m103 rfl (m_ck m133 ⟨0, 0, hκ, w_Get fu 0 0 cy ad mi hM hL (i := i) (by rw [blL_l]; omega) ⟨Nat.le_refl _, Nat.le_refl _⟩ ?_⟩))
      rw [blL_g (by omega)]
      obtain ⟨⟨p0, p1, p2, p3, p4⟩, c0, c1, ⟨gi, c2, c2'⟩, -⟩ := hB.1 i (by omega)
      have m0 := g_at hM p0 c0
      refine ⟨_, rfl, m_ck m0 (m_gr m0 rfl ?_)⟩
      have hne : kB i + 2 ≠ kx := by unfold kB; omega
      have hneq : q (kB i + 2) ≠ q kx := fun x => hne (hq _ _ p2 hx x)
      refine m_f hneq ?_
      obtain ⟨v, hv1, hv2⟩ := v_K_same fu 32 n gi g (a := 0) (b := a) (l := 32) (by decide) ha (by decide) (by omega) (by omega)
      refine ⟨32, gi, n, g, mal_c (g_at hM p2 c2) (mal_c (g_at hM hx hg) (mal_n _)), gnd hq [kB i + 2, kx] (fun k hk => ?_) ?_, v, hv1, ?_⟩
      · rcases List.mem_cons.mp hk with e | hk
        · rw [e]; exact p2
        · rw [List.mem_singleton.mp hk]; exact hx
      · exact List.nodup_cons.mpr ⟨fun x => hne (List.mem_singleton.mp x), List.nodup_cons.mpr ⟨List.not_mem_nil, List.nodup_nil⟩⟩
      have hL2 := g_lf (K := fun M' => if v = 0 then (bnd (nI i + 1) fun v34 => xw_mK_blockOf_2 fu MC MS cy ad mi Φ m (κ + 0 + 0) (σ + 0 + 0) M' (q 103) (q kx) (nI a) v34) else (mgr M' (q 103) 0 8 fun r36 => oss r36 fun q36 => mck M' q36 11 <| ∃ mc37 ms38 : Nat, (κ + 0 + 0 + mc37 ≤ MC ∧ σ + 0 + 0 + ms38 ≤ MS) ∧ xw_mAl_get fu mc37 ms38 cy ad mi (fun v40 M39 => oss v40 fun q41 => mck M39 q41 1 <| Φ (some q41) M39) 0 0 M' q36 (nI i))) hM hq C [kB i + 2, kx] (fun k hk => ?_) (fun k _ _ => rfl) (fun M' hM' => ?_)
      · rw [List.map_cons, List.map_cons, List.map_nil, c2, hg] at hL2
        exact hL2
      · rcases List.mem_cons.mp hk with e | hk
        · rw [e]; exact p2
        · rw [List.mem_singleton.mp hk]; exact hx
      have eid : bl gi 0 32 = bl (bIf rw i) 0 32 := bl_c _ _ _ fun j hj => by rw [Nat.zero_add]; exact c2' j hj
      rw [eid] at hv2
      rcases hv2 with ⟨e1, e2⟩ | ⟨e1, e2⟩
      · refine m_f (by rw [e2]; decide) ?_
        have m103' := g_at hM' h103 hK
        have m133' := g_at hM' hL.1 h133
        refine m_gr m103' rfl (m_ck m133' ⟨0, 0, ⟨by omega, by omega⟩, w_Get fu 0 0 cy ad mi hM' hL (i := i) (by rw [blL_l]; omega) ⟨Nat.le_refl _, Nat.le_refl _⟩ ?_⟩)
        rw [blL_g (by omega)]
        exact ⟨_, rfl, m_ck (g_at hM' p0 c0) (h1 M' i hM' (by omega) e1 hno)⟩
      · refine m_t e2 (m_bn (e' := nI (i + 1)) (nI_add i 1) ?_)
        exact w_bOf fu MC MS cy ad mi hfu hq hB hnb h103 hK hL hx hx2 hg ha hn hκ h0 h1 r (i + 1) m M' (by omega) (by omega) hM' (fun b' hb' => by
          by_cases e : b' = i
          · rw [e]; exact e1
          · exact hno b' (by omega))
