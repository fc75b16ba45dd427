-- why a row is refused, in the memory
set_option maxHeartbeats 400000 in
theorem w_L1 {α : Type} (F : Nat → (Nat → Int32) → Option α) {cy : Nat → ClassId} {P : Nat → Prop} {q : Nat → Nat} {C : Nat → va_E} {M : Mm} (hM : RG P q C M) (hq : IJ P q) {kx n : Nat} {g : Nat → Int32} (hx : P kx) (ex : C kx = .inl (cy 0, n, .inl g)) {v : α} (hv : F n g = some v) (K : α → Mm → Prop) (hK : ∀ M', RG P q C M' → K v M') : ∃ (c87 : Nat) (c88 : Nat → Int32), mal M [((q kx), .inl (cy 0, c87, .inl c88))] ∧ mnd (List.map (fun x : Nat × va_E => x.1) [((q kx), .inl (cy 0, c87, .inl c88))]) ∧ ∃ (v89 : α), F c87 c88 = some (v89) ∧ bnd (mov M [((q kx), .inl (cy 0, c87, .inl c88))]) fun M90 => K v89 M90 := by
  refine ⟨n, g, mal_c (g_at hM hx ex) (mal_n _), gnd hq [kx] (fun k hk => by rw [List.mem_singleton.mp hk]; exact hx) (List.nodup_cons.mpr ⟨List.not_mem_nil, List.nodup_nil⟩), v, hv, ?_⟩
  have L := g_lf (K := fun M' => K v M') hM hq C [kx] (fun k hk => by rw [List.mem_singleton.mp hk]; exact hx) (fun k _ _ => rfl) (fun M' hM' => hK M' hM')
  rw [List.map_cons, List.map_nil, ex] at L
  exact L
/-- cells that don't belong to the id, Sha256 or the layout -/
def fR (C C' : Nat → va_E) : Prop := ∀ k, k ≠ 105 → (k < 106 ∨ 109 < k) → (k < 120 ∨ 129 < k) → k ≠ 225 → C' k = C k
set_option maxHeartbeats 400000 in
theorem fR_t {C C1 C2 : Nat → va_E} (h1 : fR C C1) (h2 : fR C1 C2) : fR C C2 := fun k a b c d => (h2 k a b c d).trans (h1 k a b c d)
set_option maxHeartbeats 400000 in
theorem bkR_c {P : Nat → Prop} {q : Nat → Nat} {C C' : Nat → va_E} {cy : Nat → ClassId} {nb : Nat} {par hgt tim : Nat → Nat} {bit : Nat → Int32} {bad : Nat → Bool} {rw : Nat → List Int32} {vl : Nat → Bool} {mk : Nat → Nat} {sl : Cn → Int32} (hB : bkR P q C cy nb par hgt tim bit bad rw vl mk sl) (e : ∀ k, 256 ≤ k → C' k = C k) : bkR P q C' cy nb par hgt tim bit bad rw vl mk sl := by
  refine ⟨fun b hb => ?_, fun c hc => ?_⟩
  · obtain ⟨p, c0, c1, ⟨g, c2, c2'⟩, ⟨n, g3, c3, c3'⟩, c4⟩ := hB.1 b hb
    have hk : 256 ≤ kB b := by unfold kB; omega
    refine ⟨p, (e _ hk).trans c0, (e _ (by omega)).trans c1, ⟨g, (e _ (by omega)).trans c2, c2'⟩, ⟨n, g3, (e _ (by omega)).trans c3, c3'⟩, fun h0 => ?_⟩
    obtain ⟨f, f1, f2⟩ := c4 h0
    exact ⟨f, (e _ (by omega)).trans f1, f2⟩
  · obtain ⟨p, c0⟩ := hB.2 c hc
    exact ⟨p, (e _ (by unfold ck kB; omega)).trans c0⟩
set_option maxHeartbeats 400000 in
theorem alR_c {P : Nat → Prop} {q : Nat → Nat} {C C' : Nat → va_E} {cy : Nat → ClassId} {kl ka : Nat} {E : List Nat} {cap : Nat} (h : alR P q C cy kl ka E cap) (e1 : C' kl = C kl) (e2 : C' ka = C ka) : alR P q C' cy kl ka E cap := by
  unfold alR
  rw [e1, e2]
  exact h
/-- what stands when a row was refused (c) or not (0) -/
def rfQ (P : Nat → Prop) (q : Nat → Nat) (C0 : Nat → va_E) (cy : Nat → ClassId) (r : List Int32) (c : Nat) (M' : Mm) (C' : Nat → va_E) : Prop := RG P q C' M' ∧ shX C' q cy ∧ lyX C' q cy ∧ fR C0 C' ∧ (∃ gi, C' 105 = .inl (cy 0, 32, .inl gi) ∧ ftB gi ∧ (c = 0 → ∀ j, j < 32 → gi j = dbl (lf r) 80 j)) ∧ (c = 0 → ∃ (u3 u4 u5 u6 u7 u8 u9 u10 u11 : Nat → Int32), lyR C' q cy (.ref (q 104)) r.length (rTL r) u3 u4 u5 u6 u7 u8 u9 u10 u11)
set_option maxHeartbeats 4000000 in
theorem w_refusal (fu MC MS : Nat) (cy : Nat → ClassId) (ad : Nat → Nat) (mi : Nat) (hfu : 4000 ≤ fu) {P : Nat → Prop} {q : Nat → Nat} {C : Nat → va_E} {M : Mm} (hM : RG P q C M) (hq : IJ P q) (hP : ∀ k, k < 138 ∧ k ≠ 29 ∧ k ≠ 137 ∧ k ≠ 135 → P k) (h224 : ¬ P 224) (h225 : ¬ P 225) {nb : Nat} {par hgt tim : Nat → Nat} {bit : Nat → Int32} {bad : Nat → Bool} {rw : Nat → List Int32} {vl : Nat → Bool} {mk : Nat → Nat} {sl : Cn → Int32} (hB : bkR P q C cy nb par hgt tim bit bad rw vl mk sl) (hnb : nb ≤ 200) (hp : ∀ k, 0 < k → par k < k) (hh : hgt 0 = 0 ∧ ∀ k, 0 < k → k < nb → hgt k = hgt (par k) + 1) (hh2 : ∀ k, k < nb → hgt k ≤ 57) (ht : ∀ k, k < nb → gT (bit k) (hgt k / 8) ∧ tim k < 2 ^ 32) {rl tk ch : Int32} {tp cap : Nat} (hK : C 103 = kpO q rl tp tk ch) (hL : alR P q C cy 133 222 (blL nb) cap) {g gi : Nat → Int32} (h104 : C 104 = .inl (cy 0, 3000, .inl g)) (h105 : C 105 = .inl (cy 0, 32, .inl gi)) (hgi : ftB gi) (hs : shX C q cy) (hl : lyX C q cy) {r : List Int32} (hr : r.length ≤ 3000) (hg : ∀ j, j < r.length → g j = lf r j) (hf : ftB (lf r)) {κ σ : Nat} (hκ : κ + 2 ≤ MC ∧ σ + 4 * r.length + 43 ≤ MS) {Φ : Int32 → Mm → Prop} (hΦ : ∀ c p M' C', rfR rw nb par hgt tim bit (fun k => bad k = true) r c p → rfQ P q C cy r c M' C' → Φ (nI c) M') : xw_mK_refusal fu MC MS cy ad mi Φ κ σ M (q 103) (nI r.length) := by
  have p103 := hP 103 (by decide)
  have p104 := hP 104 (by decide)
  have p105 := hP 105 (by decide)
  have m103 := g_at hM p103 hK
  unfold xw_mK_refusal
  refine m_gr m103 rfl (m_gr m103 rfl (w_Read fu (by omega) hM hq hP hl p104 (by decide) h104 (by decide) hr hr (fun v31 M46 => if v31 = 0 then (Φ (1 : Int32) M46) else _) (fun M1 C1 hb hM1 hl1 hF1 => m_t rfl ?_) (fun TL M1 C1 w3 w4 w5 w6 w7 w8 w9 w10 w11 hb hM1 hl1 hF1 => m_f (by decide) ?_)))
  · rw [pBl_c hg] at hb
    exact hΦ 1 0 M1 C1 (iPr_t hb rfl) ⟨hM1, shX_q hs (fun k k1 k2 => ⟨hF1 k (by omega), rfl⟩), hl1, fun k _ _ k3 _ => hF1 k k3, ⟨gi, (hF1 105 (by decide)).trans h105, hgi, fun e => absurd e (by decide)⟩, fun e => absurd e (by decide)⟩
  have hb' := hb
  rw [pBl_c hg] at hb'
  have eTL : rTL r = TL := by
    unfold rTL
    rw [hb']
    rfl
  obtain ⟨h80, a0, a1, a2, hT⟩ := pBl_B hb
  have hs1 : shX C1 q cy := shX_q hs (fun k k1 k2 => ⟨hF1 k (by omega), rfl⟩)
  have hK1 : C1 103 = kpO q rl tp tk ch := (hF1 103 (by decide)).trans hK
  have h104a : C1 104 = .inl (cy 0, 3000, .inl g) := (hF1 104 (by decide)).trans h104
  have m103a := g_at hM1 p103 hK1
  refine m_gr m103a rfl (m_gr m103a rfl (m_gr m103a rfl (m_f (fun z => absurd (hq _ _ p104 p105 z) (by decide)) ?_)))
  refine w_Tw fu hfu hM1 hq hP hs1 p104 p105 (by decide) (by decide) (by decide) h104a ((hF1 105 (by decide)).trans h105) (by decide) (by decide) (a := 0) (N := 80) (o := 0) (by decide) (by decide) (by decide) (fun j hj => by rw [Nat.zero_add, hg j (by omega)]; exact hf j) hgi _ (fun M2 C2 gd hM2 hs2 hd2 hj2 hF2 => ?_)
  have hfd : ftB gd := ftB_r hgi (fun j => dbl_f _ _ j) hj2
  have hd : ∀ j, j < 32 → gd j = dbl (lf r) 80 j := fun j hj => by
    rw [hj2, if_pos (by omega), dbl_c (m := fun i => g (0 + i)) (m' := lf r) (n := 80) (fun i hi => by rw [Nat.zero_add]; exact hg i (by omega)), Nat.sub_zero]
  have hFR : fR C C2 := fun k k1 k2 k3 _ => (hF2 k k2 k1).trans (hF1 k k3)
  have hFK : ∀ k, 110 ≤ k → C2 k = C1 k := fun k hk => hF2 k (by omega) (by omega)
  have hK2 : C2 103 = kpO q rl tp tk ch := (hF2 103 (by decide) (by decide)).trans hK1
  have h104b : C2 104 = .inl (cy 0, 3000, .inl g) := (hF2 104 (by decide) (by decide)).trans h104a
  have hB2 : bkR P q C2 cy nb par hgt tim bit bad rw vl mk sl := bkR_c hB (fun k hk => hFR k (by omega) (by omega) (by omega) (by omega))
  have hL2 : alR P q C2 cy 133 222 (blL nb) cap := alR_c hL (hFR 133 (by decide) (by decide) (by decide) (by decide)) (hFR 222 (by decide) (by decide) (by decide) (by decide))
  have hl2 : lyR C2 q cy (.ref (q 104)) r.length TL w3 w4 w5 w6 w7 w8 w9 w10 w11 := lyR_c hl1 (fun k k1 k2 => hF2 k (by omega) (by omega))
  have Q2 : ∀ c M', c ≠ 0 → RG P q C2 M' → rfQ P q C cy r c M' C2 := fun c M' hc h => ⟨h, hs2, lyX_r hl2, hFR, ⟨gd, hd2, hfd, fun e => absurd e hc⟩, fun e => absurd e hc⟩
  have m103b := g_at hM2 p103 hK2
  have eD : bl gd 0 32 = bl (dbl (lf r) 80) 0 32 := bl_c _ _ _ fun j hj => by rw [Nat.zero_add]; exact hd j hj
  have eR : bl g 4 32 = bl (lf r) 4 32 := bl_c _ _ _ fun j hj => hg _ (by omega)
  have n1 : ¬ pBl (lf r) r.length = none := fun z => by rw [z] at hb'; exact absurd hb' (by simp)
  refine m_gr m103b rfl (m_ck m103b ⟨0, 0, by omega, ?_⟩)
  unfold xw_mK_blockOf
  refine w_bOf fu 0 0 cy ad mi (by omega) hq hB2 hnb p103 hK2 hL2 p105 (by decide) hd2 (a := 0) (by decide) (by decide) (by omega) (fun M3 hM3 hno => ?_) (fun M3 b hM3 hbn he _ => ?_) nb 0 fu M2 (Nat.zero_add _) (by omega) hM2 (fun b h => absurd h (Nat.not_lt_zero _))
  rotate_left
  · rw [eD] at he
    exact hΦ 2 0 M3 C2 (iPr_f n1 (iPr_t ⟨b, hbn, he⟩ rfl)) (Q2 2 M3 (by decide) hM3)
  rw [eD] at hno
  have n2 : ¬ ∃ k, k < nb ∧ bl (bIf rw k) 0 32 = bl (dbl (lf r) 80) 0 32 := fun ⟨k, k1, k2⟩ => hno k k1 k2
  have m103c := g_at hM3 p103 hK2
  refine m_gr m103c rfl (m_ck m103c ⟨0, 0, by omega, ?_⟩)
  refine w_bOf fu 0 0 cy ad mi (by omega) hq hB2 hnb p103 hK2 hL2 p104 (by decide) h104b (a := 4) (by decide) (by decide) (by omega) (fun M4 hM4 hno4 => ?_) (fun M4 p hM4 hpn he _ => ?_) nb 0 fu M3 (Nat.zero_add _) (by omega) hM3 (fun b h => absurd h (Nat.not_lt_zero _))
  · rw [eR] at hno4
    exact hΦ 3 0 M4 C2 (iPr_f n1 (iPr_f n2 (iPr_t hno4 rfl))) (Q2 3 M4 (by decide) hM4)
  rw [eR] at he
  have n3 : ¬ ∀ k, k < nb → bl (bIf rw k) 0 32 ≠ bl (lf r) 4 32 := fun z => z p hpn he
  have mkR : ∀ c, rf2 par hgt tim bit (fun k => bad k = true) r p c → rfR rw nb par hgt tim bit (fun k => bad k = true) r c p := fun c hc => iPr_f n1 (iPr_f n2 (iPr_f n3 ⟨hpn, he, hc⟩))
  obtain ⟨⟨pb, -⟩, cb, -⟩ := hB2.1 p hpn
  refine m_gi (g_at hM4 pb cb) rfl ?_
  unfold bB
  by_cases hbad : bad p = true
  · rw [if_pos hbad]
    exact m_f (by decide) (hΦ 4 p M4 C2 (mkR 4 (iPr_t hbad rfl)) (Q2 4 M4 (by decide) hM4))
  rw [if_neg hbad]
  refine m_t rfl (m_gr (g_at hM4 p103 hK2) rfl ?_)
  refine w_Word fu hM4 hq p104 h104b (by decide) (o := 72) (by decide) _ (fun M5 hM5 => m_ck (g_at hM5 pb cb) ⟨0, 0, by omega, ?_⟩)
  have eB : nI (leP g 72 4) = rBi r := by
    unfold rBi
    rw [leP_c (p := g) (p' := lf r) (o := 72) (k := 4) (fun j hj => hg _ (by omega))]
  refine w_want fu 0 0 cy ad mi (by omega) hM5 hB2 hnb hp hh hh2 ht hpn (by omega) (fun y hy => ?_)
  rw [eB]
  by_cases hbits : rBi r = y
  rotate_left
  · exact m_f hbits (hΦ 5 p M5 C2 (mkR 5 (iPr_f hbad (iPr_t (fun z => hbits (wnQ_u z hy)) rfl))) (Q2 5 M5 (by decide) hM5))
  subst hbits
  have n5 : ¬ ¬ wnQ par hgt tim bit p (rBi r) := fun z => z hy
  obtain ⟨e, m, gb1, -⟩ := wn_gT hy (ht p hpn).1 (hh2 p hpn)
  refine m_t rfl (m_gr (g_at hM5 p103 hK2) rfl ?_)
  refine w_L1 (fun n g => x_Bl_isAbove fu n g (rBi r)) hM5 hq p105 hd2 (v_isAbove fu (by omega) 32 (by decide) (by decide) gd gb1) (fun v99 M100 => if v99 = 0 then _ else (Φ (6 : Int32) M100)) (fun M6 hM6 => ?_)
  have eA : leP gd 0 32 = leP (dbl (lf r) 80) 0 32 := leP_c (o := 0) (k := 32) (fun j hj => by rw [Nat.zero_add]; exact hd j hj)
  rw [eA, ← tgB_e gb1]
  by_cases hab : tgB (rBi r) < leP (dbl (lf r) 80) 0 32
  · rw [if_pos hab]
    exact m_f (by decide) (hΦ 6 p M6 C2 (mkR 6 (iPr_f hbad (iPr_f n5 (iPr_t hab rfl)))) (Q2 6 M6 (by decide) hM6))
  rw [if_neg hab]
  refine m_t rfl (m_gr (g_at hM6 p103 hK2) rfl ?_)
  refine w_Word fu hM6 hq p104 h104b (by decide) (o := 68) (by decide) _ (fun M7 hM7 => ?_)
  have eT : leP g 68 4 = rTm r := leP_c (o := 68) (k := 4) (fun j hj => hg _ (by omega))
  have hT4 : rTm r < 2 ^ 32 := leP_lt _ _ 4
  rw [eT]
  refine m_b (m_bn (e' := lN (rTm r)) ((l_mask _).trans (congrArg lN (U_nI hT4))) (m_ck (g_at hM7 pb cb) ⟨1, 11, by omega, ?_⟩))
  have hmd : med (tls par tim 11 p) < 2 ^ 32 := med_lt (by decide) (tls_lt (nb := nb) (fun k hk _ => hp k hk) (fun k hk => (ht k hk).2) 11 p hpn)
  refine w_med fu 1 11 cy ad mi (by omega) hM7 hq h224 hB2 hp (fun k hk => (ht k hk).2) hpn (by omega) (fun M8 hM8 => ?_)
  have hc : 0 < lg_cmp (lN (rTm r)) (lN (med (tls par tim 11 p))) ↔ med (tls par tim 11 p) < rTm r := by
    rw [lg_gt' (lN_I (by omega)) (lN_I (by omega))]; omega
  by_cases htm : rTm r ≤ med (tls par tim 11 p)
  · exact m_f (fun z => by have := hc.mp z; omega) (hΦ 7 p M8 C2 (mkR 7 (iPr_f hbad (iPr_f n5 (iPr_f hab (iPr_t htm rfl))))) (Q2 7 M8 (by decide) hM8))
  have m103h := g_at hM8 p103 hK2
  have hn := txB_n TL a0 hT
  refine m_t (hc.mpr (by omega)) (m_gr m103h rfl (m_gr m103h rfl (m_ck (g_at hM8 (hP 120 (by decide)) hl2.1.1) ⟨1, 32 * TL.length + 32, by omega, ?_⟩)))
  refine w_root fu 1 (32 * TL.length + 32) cy ad mi hfu hM8 hq hP hs2 h225 p104 (by decide) (fun j hj => by rw [hg j hj]; exact hf j) h80 hr hr (by decide) hT hl2 h104b (by omega) (fun v M9 C9 hv hM9 hs9 hF9 => ?_)
  have eG : idL g TL = rId r := by
    funext t
    unfold idL rId
    rw [eTL]
    by_cases z : t < TL.length
    · obtain ⟨-, -, -, y1, -, y2⟩ := txB_at TL a0 hT _ (gDm z)
      exact dbl_c (fun j hj => hg _ (by omega))
    · rw [List.getD_eq_getElem?_getD, List.getElem?_eq_none (by omega)]
      exact dbl_c (fun j hj => absurd hj (Nat.not_lt_zero _))
  have e36 : bl g 36 32 = bl (lf r) 36 32 := bl_c _ _ _ fun j hj => hg _ (by omega)
  rw [e36, eG, ← eTL] at hv
  have hFR9 : fR C C9 := fun k k1 k2 k3 k4 => (hF9 k k2 k4).trans (hFR k k1 k2 k3 k4)
  have hl9 : lyR C9 q cy (.ref (q 104)) r.length TL w3 w4 w5 w6 w7 w8 w9 w10 w11 := lyR_c hl2 (fun k k1 k2 => hF9 k (by omega) (by omega))
  have h105i : C9 105 = .inl (cy 0, 32, .inl gd) := (hF9 105 (by decide) (by decide)).trans hd2
  have Q9 : ∀ c M', RG P q C9 M' → rfQ P q C cy r c M' C9 := fun c M' h => ⟨h, hs9, lyX_r hl9, hFR9, ⟨gd, h105i, hfd, fun _ => hd⟩, fun _ => ⟨w3, w4, w5, w6, w7, w8, w9, w10, w11, by rw [eTL]; exact hl9⟩⟩
  have mk8 : ∀ c, iPr (¬ rtQ (bl (lf r) 36 32) 10 (rTL r).length (rId r)) (c = 8) (iPr (¬ sndS ((rTL r).map (txV (lf r))) (hgt p + 1) (rTm r)) (c = 9) (c = 0)) → rfR rw nb par hgt tim bit (fun k => bad k = true) r c p := fun c z => mkR c (iPr_f hbad (iPr_f n5 (iPr_f hab (iPr_f htm z))))
  rcases hv with ⟨y, e'⟩ | ⟨y, e'⟩
  rotate_left
  · subst e'
    exact m_t rfl (hΦ 8 p M9 C9 (mk8 8 (iPr_t y rfl)) (Q9 8 M9 hM9))
  subst e'
  have n8 : ¬ ¬ rtQ (bl (lf r) 36 32) 10 (rTL r).length (rId r) := fun z => z y
  have cb9 := (hF9 (kB p) (by unfold kB; omega) (by unfold kB; omega)).trans cb
  have h57 := hh2 p hpn
  refine m_f (by decide) (m_gr (g_at hM9 p103 ((hF9 103 (by decide) (by decide)).trans hK2)) rfl (m_gi (g_at hM9 pb cb9) rfl (m_bn (e' := nI (hgt p + 1)) (nI_add _ 1) ?_)))
  refine w_Snd fu hfu hM9 hq hP hl9 p104 (by decide) ((hF9 104 (by decide) (by decide)).trans h104b) (by decide) hr hT (h := hgt p + 1) (tm := rTm r) (by omega) hT4 (fun v151 M152 => if v151 = 0 then (Φ (9 : Int32) M152) else (Φ (0 : Int32) M152)) (fun v M10 hv hM10 => ?_)
  rw [txV_c hg hT, ← eTL] at hv
  rcases hv with ⟨z, e'⟩ | ⟨z, e'⟩
  · subst e'
    exact m_f (by decide) (hΦ 0 p M10 C9 (mk8 0 (iPr_f n8 (iPr_f (fun w => w z) rfl))) (Q9 0 M10 hM10))
  · subst e'
    exact m_t rfl (hΦ 9 p M10 C9 (mk8 9 (iPr_f n8 (iPr_t z rfl))) (Q9 9 M10 hM10))
