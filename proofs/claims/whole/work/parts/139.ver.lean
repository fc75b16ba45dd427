-- sumIsRight
set_option maxHeartbeats 600000 in
theorem v_sumIsRight {F : Type} [Lean.Grind.Field F] [DecidableEq F] {c : Int → F} (hc : cH pP c) (fu : Nat) (hfu : 1200 ≤ fu) (MC MS : Nat) (cy : Nat → ClassId) (ad : Nat → Nat) (mi : Nat) (q : Nat → Nat) (hq : Ij 103 q) (n1 : Nat) (R : Nat → Nat → Option Nat) (hR : sgQ q R) (κ σ : Nat) (B : Nat → Nat → Int32) (L : Nat → Nat → Int64) (M : Mm) (Φ : Int32 → Mm → Prop) {A : Option (F × F)} {r : Nat} (hr : nv (L 8) r) (hrN : r < nN) (hM : Rg 103 q (sgC q cy n1 R L B) M) (hS : pQ c L B 98 A) (hΦ : ∀ v L' M', Rg 103 q (sgC q cy n1 R L' B) M' → fr 103 q M M' → (∀ k, k ≠ 8 → k ≠ 18 → k ≠ 19 → L' k = L k) → ((v = 1 ∧ gF c A r) ∨ (v = 0 ∧ ¬ gF c A r)) → Φ v M') : xw_mSi_sumIsRight fu MC MS cy ad mi Φ κ σ M (q 0) := by
  unfold xw_mSi_sumIsRight
  have h1N := pN_1
  have h2N := pN_2
  refine m_gr (hM 0 (by decide)) rfl (m_gi (hM 98 (by decide)) rfl (m_if (fun g => ?_) (fun g => ?_)))
  · have hS' : jI c (B 98 0) (B 98 1) (L 99) (L 100) (L 101) A := hS
    have yy : ∀ y : F, ∃ Y : Nat, y = c (Y : Int) := fun y => by
      obtain ⟨Y, -, e⟩ := hc.2.2.2.2 y
      exact ⟨Y, e.symm⟩
    refine m_gr (hM 0 (by decide)) rfl (m_gr (hM 0 (by decide)) rfl (m_gr (hM 0 (by decide)) rfl ?_))
    obtain ⟨⟨v, f1, f2⟩, e, hv⟩ := v_Cu_hasX hc fu (by omega) (B 98 0) (B 98 1) (L 99) (L 100) (L 101) (L 8) (L 18) (L 19) hr g hS'
    replace hv : (v = 1 ∧ ∃ y, A = some (c (r : Int), y)) ∨ (v = 0 ∧ ¬ ∃ y, A = some (c (r : Int), y)) := hv
    refine ⟨_, _, _, _, _, _, _, _, _, _, _, _, _, _, _, _, _, mal_c (hM 1 (by decide)) (mal_c (hM 18 (by decide)) (mal_c (hM 19 (by decide)) (mal_c (hM 98 (by decide)) (mal_c (hM 99 (by decide)) (mal_c (hM 101 (by decide)) (mal_c (hM 8 (by decide)) (mal_n _))))))), mnd_q hq [1, 18, 19, 98, 99, 101, 8] (by decide) (by decide), v, f1, f2, e, ?_⟩
    refine m_lf hM hq (sgC q cy n1 R (va_up (va_up L 18 f1) 19 f2) B) [1, 18, 19, 98, 99, 101, 8] (by decide) (fun k hk hn => sgC_c (by rw [up_n (fun e => hn (by simp [e])), up_n (fun e => hn (by simp [e]))]) rfl) (fun M1 hM1 hf1 => ?_)
    have k1 : ∀ k, k ≠ 8 → k ≠ 18 → k ≠ 19 → va_up (va_up L 18 f1) 19 f2 k = L k := fun k _ k2 k3 => by rw [up_n k3, up_n k2]
    rcases hv with ⟨v1, y, hy⟩ | ⟨v0, hv⟩
    · refine m_f (by rw [v1]; exact one_ne) (hΦ 1 _ M1 hM1 hf1 k1 (Or.inl ⟨rfl, ?_⟩))
      obtain ⟨Y, hY⟩ := yy y
      exact ⟨r, Y, by omega, by rw [hy, hY], Nat.mod_eq_of_lt hrN⟩
    · refine m_t v0 (m_gr (hM1 0 (by decide)) rfl ?_)
      obtain ⟨f3, e3, h3⟩ := v_Sc_add_s1x4 fu (by omega) (L 8) (nv_sb hr)
      have hr3 : nv f3 (r + nN) := nv_of h3.2 (by rw [h3.1, hr.2, W_4]; omega) (by have := pP_T; omega)
      refine ⟨_, mal_c (hM1 8 (by decide)) (mal_n _), mnd_q hq [8] (by decide) (by decide), f3, e3, ?_⟩
      refine m_lf hM1 hq (sgC q cy n1 R (va_up (va_up (va_up L 18 f1) 19 f2) 8 f3) B) [8] (by decide) (fun k hk hn => sgC_c (up_n (fun e => hn (by simp [e]))) rfl) (fun M2 hM2 hf2 => ?_)
      obtain ⟨w5, ew5, hw5⟩ : ∃ w, x_Sc_compare_s1x5 fu f3 = some w ∧ (0 ≤ w ↔ pP ≤ r + nN) := ⟨_, v_Sc_compare_s1x5 fu (by omega) f3 (nv_nm hr3), by rw [cmpI_ge, hr3.2, W_5]; exact Int.ofNat_le⟩
      refine m_gr (hM2 0 (by decide)) rfl ⟨_, mal_c (hM2 8 (by decide)) (mal_n _), mnd_q hq [8] (by decide) (by decide), w5, ew5, ?_⟩
      refine m_lf hM2 hq (sgC q cy n1 R (va_up (va_up (va_up L 18 f1) 19 f2) 8 f3) B) [8] (by decide) (fun _ _ _ => rfl) (fun M3 hM3 hf3 => ?_)
      have k3 : ∀ k, k ≠ 8 → k ≠ 18 → k ≠ 19 → va_up (va_up (va_up L 18 f1) 19 f2) 8 f3 k = L k := fun k a1 a2 a3 => by rw [up_n a1]; exact k1 k a1 a2 a3
      refine m_if (fun g2 => ?_) (fun g2 => ?_)
      · have g2 := hw5.mp g2
        refine hΦ 0 _ M3 hM3 (fr_t hf1 (fr_t hf2 hf3)) k3 (Or.inr ⟨rfl, ?_⟩)
        rintro ⟨X, Y, hX, hA, hm⟩
        by_cases hl : X < nN
        · rw [Nat.mod_eq_of_lt hl] at hm
          exact hv ⟨_, by rw [hA, hm]⟩
        · rw [Nat.mod_eq_sub_mod (by omega), Nat.mod_eq_of_lt (by omega)] at hm
          omega
      · have g2 : r + nN < pP := by
          apply Classical.byContradiction
          intro h
          exact g2 (hw5.mpr (by omega))
        refine m_gr (hM3 0 (by decide)) rfl (m_gr (hM3 0 (by decide)) rfl (m_gr (hM3 0 (by decide)) rfl ?_))
        obtain ⟨⟨w, f4, f5⟩, e4, hw⟩ := v_Cu_hasX hc fu (by omega) (B 98 0) (B 98 1) (L 99) (L 100) (L 101) f3 f1 f2 hr3 g hS'
        replace hw : (w = 1 ∧ ∃ y, A = some (c ((r + nN : Nat) : Int), y)) ∨ (w = 0 ∧ ¬ ∃ y, A = some (c ((r + nN : Nat) : Int), y)) := hw
        refine ⟨_, _, _, _, _, _, _, _, _, _, _, _, _, _, _, _, _, mal_c (hM3 1 (by decide)) (mal_c (hM3 18 (by decide)) (mal_c (hM3 19 (by decide)) (mal_c (hM3 98 (by decide)) (mal_c (hM3 99 (by decide)) (mal_c (hM3 101 (by decide)) (mal_c (hM3 8 (by decide)) (mal_n _))))))), mnd_q hq [1, 18, 19, 98, 99, 101, 8] (by decide) (by decide), w, f4, f5, e4, ?_⟩
        refine m_lf hM3 hq (sgC q cy n1 R (va_up (va_up (va_up (va_up (va_up L 18 f1) 19 f2) 8 f3) 18 f4) 19 f5) B) [1, 18, 19, 98, 99, 101, 8] (by decide) (fun k hk hn => sgC_c (by rw [up_n (fun e => hn (by simp [e])), up_n (fun e => hn (by simp [e]))]) rfl) (fun M4 hM4 hf4 => ?_)
        have k4 : ∀ k, k ≠ 8 → k ≠ 18 → k ≠ 19 → va_up (va_up (va_up (va_up (va_up L 18 f1) 19 f2) 8 f3) 18 f4) 19 f5 k = L k := fun k a1 a2 a3 => by rw [up_n a3, up_n a2]; exact k3 k a1 a2 a3
        rcases hw with ⟨w1, y, hy⟩ | ⟨w0, hw⟩
        · refine m_f (by rw [w1]; exact one_ne) (hΦ 1 _ M4 hM4 (fr_t hf1 (fr_t hf2 (fr_t hf3 hf4))) k4 (Or.inl ⟨rfl, ?_⟩))
          obtain ⟨Y, hY⟩ := yy y
          exact ⟨r + nN, Y, g2, by rw [hy, hY], by rw [Nat.add_mod_right, Nat.mod_eq_of_lt hrN]⟩
        · refine m_t w0 (hΦ 0 _ M4 hM4 (fr_t hf1 (fr_t hf2 (fr_t hf3 hf4))) k4 (Or.inr ⟨rfl, ?_⟩))
          rintro ⟨X, Y, hX, hA, hm⟩
          by_cases hl : X < nN
          · rw [Nat.mod_eq_of_lt hl] at hm
            exact hv ⟨_, by rw [hA, hm]⟩
          · rw [Nat.mod_eq_sub_mod (by omega), Nat.mod_eq_of_lt (by omega)] at hm
            exact hw ⟨_, by rw [hA, show X = r + nN by omega]⟩
  · refine hΦ 0 L M hM (fr_r _ _ _) (fun _ _ _ _ => rfl) (Or.inr ⟨rfl, ?_⟩)
    rintro ⟨X, Y, hX, hA, hm⟩
    rcases hS.2 with ⟨e, -⟩ | ⟨-, e⟩
    · exact g e
    · rw [e] at hA
      exact absurd hA (by simp)
-- verify
/-- what holds between the calls -/
def gI {F : Type} [Lean.Grind.Field F] [DecidableEq F] (c : Int → F) (L : Nat → Nat → Int64) (B : Nat → Nat → Int32) : Prop := bI c L B ∧ (B 98 1 = 0 ∨ B 98 1 = 1) ∧ (∀ i, 262 ≤ i → B 6 i = 0) ∧ ∀ i, 262 ≤ i → B 7 i = 0
/-- a signature holds -/
def sgP {F : Type} [Lean.Grind.Field F] [DecidableEq F] (c : Int → F) (h : Nat → Int32) (z a n b m : Nat) : Prop := ∃ x y, kS h a n x y ∧ sgA h b m ∧ edS c (beN h z 32) (sgR h b) (sgV h b) x y
set_option maxHeartbeats 600000 in
theorem gI_c {F : Type} [Lean.Grind.Field F] [DecidableEq F] {c : Int → F} {L L' : Nat → Nat → Int64} {B B' : Nat → Nat → Int32} (h : gI c L B) (h1 : ∀ k, 30 ≤ k → k < 62 → L' k = L k) (h2 : ∀ k, k = 6 ∨ k = 7 ∨ (30 ≤ k ∧ k < 62) ∨ k = 98 → B' k = B k) : gI c L' B' := by
  refine ⟨fun i hi => ?_, ?_, ?_, ?_⟩
  · have e := h2 (30 + 4 * i) (by omega)
    exact ⟨pQ_c (h.1 i hi).1 (fun k k1 k2 => h1 k (by omega) (by omega)) e, by rw [e]; exact (h.1 i hi).2⟩
  · rw [h2 98 (by omega)]; exact h.2.1
  · rw [h2 6 (by omega)]; exact h.2.2.1
  · rw [h2 7 (by omega)]; exact h.2.2.2
set_option maxHeartbeats 600000 in
theorem dvN_e {e e' s u : Nat} (h : e % nN = e' % nN) : dvN e s u ↔ dvN e' s u := by
  unfold dvN
  rw [h]
set_option maxHeartbeats 600000 in
theorem l_vf139 {F : Type} [Lean.Grind.Field F] [DecidableEq F] {c : Int → F} (hc : cH pP c) (fu : Nat) (hfu : 1200 ≤ fu) (MC MS : Nat) (cy : Nat → ClassId) (ad : Nat → Nat) (mi : Nat) (q : Nat → Nat) (hq : Ij 103 q) (n1 : Nat) (R : Nat → Nat → Option Nat) (hR : sgQ q R) (κ σ : Nat) (B : Nat → Nat → Int32) (L : Nat → Nat → Int64) (M : Mm) (Φ : Int32 → Mm → Prop) {x y e r s : Nat} (hκ : κ ≤ MC ∧ σ ≤ MS) (hM : Rg 103 q (sgC q cy n1 R L B) M) (hg : gI c L B) (hon : onC (c 7) (some (c (x : Int), c (y : Int)))) (hp : pQ c L B 62 (some (c (x : Int), c (y : Int)))) (hr : nv (L 8) r) (hrN : r < nN) (hs : nv (L 9) s) (hs0 : 0 < s) (hsN : s < nN) (he : nv (L 10) e) (heN : e < nN) (hΦ : ∀ v L' B' M', Rg 103 q (sgC q cy n1 R L' B') M' → fr 103 q M M' → gI c L' B' → B' 102 = B 102 → (∃ a b, dvN e s a ∧ dvN r s b ∧ ((v = 1 ∧ gF c (ea (sm (gG c) a) (sm (some (c (x : Int), c (y : Int))) b)) r) ∨ (v = 0 ∧ ¬ gF c (ea (sm (gG c) a) (sm (some (c (x : Int), c (y : Int))) b)) r))) → Φ v M') : xv_mSi_verify_139 fu MC MS cy ad mi Φ κ σ M (q 0) := by
  unfold xv_mSi_verify_139
  have hN256 : nN < 2 ^ 256 := by decide +kernel
  refine m_gr (hM 0 (by decide)) rfl (m_gr (hM 0 (by decide)) rfl (m_ck (hM 0 (by decide)) ⟨0, 0, ⟨by omega, by omega⟩, ?_⟩))
  refine v_divide fu hfu 0 0 cy ad mi q hq n1 R hR 0 0 B L M _ (k1 := 10) (kt := 11) (Or.inr rfl) (Or.inl rfl) hM hs hs0 hsN he heN (fun L1 M1 a hM1 hf1 hk1 ha hda => ?_)
  refine m_gr (hM1 0 (by decide)) rfl (m_gr (hM1 0 (by decide)) rfl (m_ck (hM1 0 (by decide)) ⟨0, 0, ⟨by omega, by omega⟩, ?_⟩))
  have r1 : L1 8 = L 8 := hk1 8 (by omega) (by omega)
  have s1 : L1 9 = L 9 := hk1 9 (by omega) (by omega)
  refine v_divide fu hfu 0 0 cy ad mi q hq n1 R hR 0 0 B L1 M1 _ (k1 := 8) (kt := 12) (Or.inl rfl) (Or.inr rfl) hM1 (by rw [s1]; exact hs) hs0 hsN (by rw [r1]; exact hr) hrN (fun L2 M2 b hM2 hf2 hk2 hb hdb => ?_)
  have a2 : nv (L2 11) a := by rw [hk2 11 (by omega) (by omega)]; exact ha
  obtain ⟨d6, e6, h6⟩ := v_Si_writeDigits fu (by omega) (L2 11) a2 (by have := hda.1; omega) (B 6) hg.2.2.1
  refine m_gr (hM2 0 (by decide)) rfl (m_gr (hM2 0 (by decide)) rfl ⟨_, _, _, mal_c (hM2 11 (by decide)) (mal_c (hM2 6 (by decide)) (mal_n _)), mnd_q hq [11, 6] (by decide) (by decide), d6, e6, ?_⟩)
  refine m_lf hM2 hq (sgC q cy n1 R L2 (va_up B 6 d6)) [11, 6] (by decide) (fun k hk hn => sgC_c rfl (up_n (fun e => hn (by simp [e])))) (fun M3 hM3 hf3 => ?_)
  obtain ⟨d7, e7, h7⟩ := v_Si_writeDigits fu (by omega) (L2 12) hb (by have := hdb.1; omega) (B 7) hg.2.2.2
  refine m_gr (hM3 0 (by decide)) rfl (m_gr (hM3 0 (by decide)) rfl ⟨_, _, _, mal_c (hM3 12 (by decide)) (mal_c (hM3 7 (by decide)) (mal_n _)), mnd_q hq [12, 7] (by decide) (by decide), d7, e7, ?_⟩)
  refine m_lf hM3 hq (sgC q cy n1 R L2 (va_up (va_up B 6 d6) 7 d7)) [12, 7] (by decide) (fun k hk hn => sgC_c rfl (up_n (fun e => hn (by simp [e])))) (fun M4 hM4 hf4 => ?_)
  have kL : ∀ k, 17 ≤ k → L2 k = L k := fun k hk => by rw [hk2 k (by omega) (by omega), hk1 k (by omega) (by omega)]
  have kB : ∀ k, 8 ≤ k → va_up (va_up B 6 d6) 7 d7 k = B k := fun k hk => by rw [up_n (by omega), up_n (by omega)]
  have hb4 : bI c L2 (va_up (va_up B 6 d6) 7 d7) := fun i hi => ⟨pQ_c (hg.1 i hi).1 (fun k k1 k2 => kL k (by omega)) (kB _ (by omega)), by rw [kB _ (by omega)]; exact (hg.1 i hi).2⟩
  refine m_ck (hM4 0 (by decide)) ⟨0, 0, ⟨by omega, by omega⟩, ?_⟩
  refine v_addUp hc fu hfu 0 0 cy ad mi q hq n1 R hR 0 0 _ L2 M4 _ hon (by simp) hM4 hb4 (pQ_c hp (fun k k1 k2 => kL k (by omega)) (kB 62 (by omega))) (by rw [kB 98 (by omega)]; exact hg.2.1) h6.2.1 h7.2.1 (fun L5 B5 M5 hM5 hf5 hk5 hS5 => ?_)
  have hS6 : pQ c L5 B5 98 (ea (sm (gG c) a) (sm (some (c (x : Int), c (y : Int))) b)) := by
    have e1 : dS (va_up (va_up B 6 d6) 7 d7 6) 257 = (a : Int) := h6.1
    have e2 : dS (va_up (va_up B 6 d6) 7 d7 7) 257 = (b : Int) := h7.1
    rw [e1, e2, zm_nat, zm_nat] at hS5
    exact hS5
  refine m_ck (hM5 0 (by decide)) ⟨0, 0, ⟨by omega, by omega⟩, ?_⟩
  have r5 : nv (L5 8) r := by rw [hk5.1 8 (by omega) (by omega), hk2 8 (by omega) (by omega), r1]; exact hr
  refine v_sumIsRight hc fu hfu 0 0 cy ad mi q hq n1 R hR 0 0 B5 L5 M5 _ r5 hrN hM5 hS6 (fun v L6 M6 hM6 hf6 hk6 hv => ⟨by rcases hv with ⟨e, -⟩ | ⟨e, -⟩ <;> rw [e] <;> decide, ?_⟩)
  refine hΦ v L6 B5 M6 hM6 (fr_t hf1 (fr_t hf2 (fr_t hf3 (fr_t hf4 (fr_t hf5 hf6))))) ⟨fun i hi => ?_, ?_, ?_, ?_⟩ ?_ ⟨a, b, hda, hdb, hv⟩
  · have e := hk5.2 (30 + 4 * i) (Or.inl (by omega))
    exact ⟨pQ_c (hb4 i hi).1 (fun k k1 k2 => by rw [hk6 k (by omega) (by omega) (by omega), hk5.1 k (by omega) (by omega)]) e, by rw [e]; exact (hb4 i hi).2⟩
  · exact hS5.1
  · rw [hk5.2 6 (by omega)]
    exact h6.2.2
  · rw [hk5.2 7 (by omega)]
    exact h7.2.2
  · rw [hk5.2 102 (by omega)]
    exact kB 102 (by omega)
set_option maxHeartbeats 600000 in
theorem by_nI {x : Int32} (h1 : -128 ≤ x.toInt) (h2 : x.toInt < 128) (h3 : By x < 128) : x = nI (By x) := by
  have hu : U x < 2 ^ 32 := U_lt x
  have hi := i_toInt x
  unfold By at *
  have e : U x = U x % 256 := by
    generalize U x = u at *
    split at hi
    · omega
    · omega
  rw [← e, nI_U]
/-- bytes with a sign -/
def byt (h : Nat → Int32) (n : Nat) : Prop := ∀ i, i < n → -128 ≤ (h i).toInt ∧ (h i).toInt < 128
set_option maxHeartbeats 600000 in
/-- verify is the document's check of a signature -/
theorem v_verify {F : Type} [Lean.Grind.Field F] [DecidableEq F] {c : Int → F} (hc : cH pP c) (fu : Nat) (hfu : 1200 ≤ fu) (MC MS : Nat) (cy : Nat → ClassId) (ad : Nat → Nat) (mi : Nat) (q : Nat → Nat) (hq : Ij 103 q) (n1 : Nat) (R : Nat → Nat → Option Nat) (hR : sgQ q R) (κ σ : Nat) (hn1 : n1 < 2 ^ 31) (B : Nat → Nat → Int32) (L : Nat → Nat → Int64) (M : Mm) (Φ : Int32 → Mm → Prop) {z a n b m : Nat} (hz : z + 32 ≤ n1) (han : a + n ≤ n1) (hbm : b + m ≤ n1) (hby : byt (B 102) n1) (hκ : κ ≤ MC ∧ σ ≤ MS) (hM : Rg 103 q (sgC q cy n1 R L B) M) (hg : gI c L B) (hΦ : ∀ v L' B' M', Rg 103 q (sgC q cy n1 R L' B') M' → fr 103 q M M' → gI c L' B' → B' 102 = B 102 → ((v = 1 ∧ sgP c (B 102) z a n b m) ∨ (v = 0 ∧ ¬ sgP c (B 102) z a n b m)) → Φ v M') : xw_mSi_verify fu MC MS cy ad mi Φ κ σ M (q 0) (q 102) (nI z) (nI a) (nI n) (nI b) (nI m) := by
  unfold xw_mSi_verify
  obtain ⟨h, hh⟩ : ∃ h, h = B 102 := ⟨_, rfl⟩
  rw [← hh] at hby hΦ
  have hN256 : nN < 2 ^ 256 := by decide +kernel
  have no : ∀ L' B' M', Rg 103 q (sgC q cy n1 R L' B') M' → fr 103 q M M' → gI c L' B' → B' 102 = h → ¬ sgP c h z a n b m → Φ 0 M' := fun L' B' M' h1 h2 h3 h4 h5 => hΦ 0 L' B' M' h1 h2 h3 h4 (Or.inr ⟨rfl, h5⟩)
  obtain ⟨v3, e3, h3⟩ := v_Si_isStrict fu n1 hn1 h hbm
  have m102 : mat M (q 102) (.inl (cy 0, n1, .inl h)) := by rw [hh]; exact hM 102 (by decide)
  refine ⟨_, _, mal_c m102 (mal_n _), mnd_q hq [102] (by decide) (by decide), v3, e3, ?_⟩
  rw [hh]
  refine m_lf hM hq (sgC q cy n1 R L B) [102] (by decide) (fun _ _ _ => rfl) (fun M1 hM1 hf1 => ?_)
  rcases h3 with ⟨v0, h3⟩ | ⟨v1, h3⟩
  · exact m_t v0 (no L B M1 hM1 hf1 hg hh.symm (fun s => by obtain ⟨x, y, -, s, -⟩ := s; exact h3 (sgS_T.mp s.1).1))
  refine m_f (by rw [v1]; exact one_ne) ?_
  have T := h3
  obtain ⟨t1, t2, t3, t4, t5, t6, t7, t8⟩ := T
  obtain ⟨rl, hrl⟩ : ∃ rl, rl = By (h (b + 3)) := ⟨_, rfl⟩
  rw [← hrl] at t5 t6 t7 t8
  obtain ⟨sl, hsl⟩ : ∃ sl, sl = By (h (b + 5 + rl)) := ⟨_, rfl⟩
  rw [← hsl] at t6 t8
  rw [nI_add]
  refine m_b (m_bn (show nI (b + m) - (1 : Int32) = nI (b + m - 1) from pk_sub (b := 1) (by omega)) (m_ai (hM1 102 (by decide)) (inb_nI (by omega) (by omega)) ?_))
  rw [nI_clamp (n := b + m - 1) (by omega), ← hh]
  refine m_if (fun g1 => ?_) (fun g1 => no L B M1 hM1 hf1 hg hh.symm (fun s => by obtain ⟨x, y, -, s, -⟩ := s; exact g1 (sgS_T.mp s.1).2))
  have hS : sgS h b m := sgS_T.mpr ⟨h3, g1⟩
  have er : h (b + 3) = nI rl := by
    rw [hrl]
    exact by_nI (hby _ (by omega)).1 (hby _ (by omega)).2 (by omega)
  have es : h (b + 5 + rl) = nI sl := by
    rw [hsl]
    exact by_nI (hby _ (by omega)).1 (hby _ (by omega)).2 (by omega)
  refine m_bn (nI_add b 3) (m_ai (hM1 102 (by decide)) (inb_nI (by omega) (by omega)) ?_)
  rw [nI_clamp (n := b + 3) (by omega), ← hh, er]
  refine m_bn (nI_add b 5) (m_bn (nI_add (b + 5) rl) (m_ai (hM1 102 (by decide)) (inb_nI (by omega) (by omega)) ?_))
  rw [nI_clamp (n := b + 5 + rl) (by omega), ← hh, es]
  refine m_bn (nI_add b 4) (m_gr (hM1 0 (by decide)) rfl ?_)
  obtain ⟨⟨v19, f8⟩, e19, h19⟩ := v_Si_readNumber fu n1 (by omega) hn1 h (a := b + 4) (n := rl) (by omega) (L 8)
  have m1 : mat M1 (q 102) (.inl (cy 0, n1, .inl h)) := by rw [hh]; exact hM1 102 (by decide)
  refine ⟨_, _, _, mal_c m1 (mal_c (hM1 8 (by decide)) (mal_n _)), mnd_q hq [102, 8] (by decide) (by decide), v19, f8, e19, ?_⟩
  rw [hh]
  refine m_lf hM1 hq (sgC q cy n1 R (va_up L 8 f8) B) [102, 8] (by decide) (fun k hk hn => sgC_c (up_n (fun e => hn (by simp [e]))) rfl) (fun M2 hM2 hf2 => ?_)
  have g_8 : gI c (va_up L 8 f8) B := gI_c hg (fun k k1 k2 => up_n (by omega)) (fun _ _ => rfl)
  rcases h19 with ⟨v0, h19⟩ | ⟨v1', h19, r8⟩
  · exact m_t v0 (no _ B M2 hM2 (fr_t hf1 hf2) g_8 hh.symm (fun s => by obtain ⟨x, y, -, s, -⟩ := s; exact h19 (by rw [hrl]; exact s.2.1)))
  replace v1' : v19 = 1 := v1'
  replace r8 : nv f8 (beN h (b + 4) rl) := r8
  refine m_f (by rw [v1']; exact one_ne) (m_bn (nI_add b 6) (m_bn (nI_add (b + 6) rl) (m_gr (hM2 0 (by decide)) rfl ?_)))
  obtain ⟨⟨v29, f9⟩, e29, h29⟩ := v_Si_readNumber fu n1 (by omega) hn1 h (a := b + 6 + rl) (n := sl) (by omega) (L 9)
  have m2 : mat M2 (q 102) (.inl (cy 0, n1, .inl h)) := by rw [hh]; exact hM2 102 (by decide)
  refine ⟨_, _, _, mal_c m2 (mal_c (hM2 9 (by decide)) (mal_n _)), mnd_q hq [102, 9] (by decide) (by decide), v29, f9, e29, ?_⟩
  rw [hh]
  refine m_lf hM2 hq (sgC q cy n1 R (va_up (va_up L 8 f8) 9 f9) B) [102, 9] (by decide) (fun k hk hn => sgC_c (up_n (fun e => hn (by simp [e]))) rfl) (fun M3 hM3 hf3 => ?_)
  have g_9 : gI c (va_up (va_up L 8 f8) 9 f9) B := gI_c g_8 (fun k k1 k2 => up_n (by omega)) (fun _ _ => rfl)
  rcases h29 with ⟨v0, h29⟩ | ⟨v1'', h29, r9⟩
  · exact m_t v0 (no _ B M3 hM3 (fr_t hf1 (fr_t hf2 hf3)) g_9 hh.symm (fun s => by obtain ⟨x, y, -, s, -⟩ := s; exact h29 (by rw [hsl, hrl]; exact s.2.2)))
  replace v1'' : v29 = 1 := v1''
  replace r9 : nv f9 (beN h (b + 6 + rl) sl) := r9
  have hA : sgA h b m := ⟨hS, by rw [← hrl]; exact h19, by rw [← hrl, ← hsl]; exact h29⟩
  have eR : sgR h b = beN h (b + 4) rl := by unfold sgR; rw [← hrl]
  have eV : sgV h b = beN h (b + 6 + rl) sl := by unfold sgV; rw [← hrl, ← hsl]
  refine m_f (by rw [v1'']; exact one_ne) (m_gr (hM3 0 (by decide)) rfl (m_gr (hM3 0 (by decide)) rfl (m_ar (hM3 5 (by decide)) (by decide) (hR.2.2.2 0 (by decide)) (m_ck (hM3 1 (by decide)) ⟨0, 0, ⟨by omega, by omega⟩, ?_⟩))))
  refine v_readKey hc fu (by omega) 0 0 cy ad mi q hq n1 R hR 0 0 hn1 B (va_up (va_up L 8 f8) 9 f9) M3 _ han ⟨Nat.le_refl _, Nat.le_refl _⟩ hM3 (fun v41 L4 B4 M4 hM4 hf4 hk4 hP4 => ?_)
  rw [← hh] at hP4
  have g_4 : gI c L4 B4 := gI_c g_9 (fun k k1 k2 => hk4.1 k (by omega) (by omega) (by omega)) (fun k hk => hk4.2 k (by omega))
  have b4 : B4 102 = h := by rw [hk4.2 102 (by omega), hh]
  have hf04 := fr_t hf1 (fr_t hf2 (fr_t hf3 hf4))
  rcases hP4 with ⟨v0, hno⟩ | ⟨v41', x, y, hk, hb0, hj⟩
  · exact m_t v0 (no L4 B4 M4 hM4 hf04 g_4 b4 (fun s => by obtain ⟨x, y, s, -⟩ := s; exact hno ⟨x, y, s⟩))
  refine m_f (by rw [v41']; exact one_ne) (m_gr (hM4 0 (by decide)) rfl ?_)
  have m4 : mat M4 (q 102) (.inl (cy 0, n1, .inl h)) := by rw [← b4]; exact hM4 102 (by decide)
  rw [show (32 : Int32) = nI 32 from rfl]
  obtain ⟨f10, e10, h10⟩ := v_Sc_load fu n1 (by omega) hn1 h (a := z) (n := 32) (by omega) hz (L4 10)
  refine ⟨_, _, _, mal_c m4 (mal_c (hM4 10 (by decide)) (mal_n _)), mnd_q hq [102, 10] (by decide) (by decide), f10, e10, ?_⟩
  rw [← b4]
  refine m_lf hM4 hq (sgC q cy n1 R (va_up L4 10 f10) B4) [102, 10] (by decide) (fun k hk hn => sgC_c (up_n (fun e => hn (by simp [e]))) rfl) (fun M5 hM5 hf5 => ?_)
  obtain ⟨w5, ew5, hw5⟩ : ∃ w, x_Sc_compare_s1x4 fu f10 = some w ∧ (w < 0 ↔ beN h z 32 < nN) := ⟨_, v_Sc_compare_s1x4 fu (by omega) f10 (nv_nm h10), by rw [cmpI_lt, h10.2, W_4]; exact Int.ofNat_lt⟩
  refine m_gr (hM5 0 (by decide)) rfl ⟨_, mal_c (hM5 10 (by decide)) (mal_n _), mnd_q hq [10] (by decide) (by decide), w5, ew5, ?_⟩
  refine m_lf hM5 hq (sgC q cy n1 R (va_up L4 10 f10) B4) [10] (by decide) (fun _ _ _ => rfl) (fun M6 hM6 hf6 => ?_)
  have hon : onC (c 7) (some (c (x : Int), c (y : Int))) := by
    show c (y : Int) * c (y : Int) = c (x : Int) * c (x : Int) * c (x : Int) + c 7
    rw [← T_c hc, ← (sq_c hc).mp hk.2.2.2.2.1]
  have l8 : L4 8 = f8 := hk4.1 8 (by omega) (by omega) (by omega)
  have l9 : L4 9 = f9 := hk4.1 9 (by omega) (by omega) (by omega)
  have hs9 := h29
  have hr9 := h19
  -- the rest, whatever the message
  have fin : ∀ L7 M7 e, Rg 103 q (sgC q cy n1 R L7 B4) M7 → fr 103 q M6 M7 → (∀ k, k ≠ 10 → L7 k = L4 k) → nv (L7 10) e → e < nN → e % nN = beN h z 32 % nN → xv_mSi_verify_139 fu MC MS cy ad mi Φ κ σ M7 (q 0) := by
    intro L7 M7 e hM7 hf7 hk7 he heN hem
    refine l_vf139 hc fu hfu MC MS cy ad mi q hq n1 R hR κ σ B4 L7 M7 Φ (x := x) (y := y) (e := e) (r := sgR h b) (s := sgV h b) hκ hM7 (gI_c g_4 (fun k k1 k2 => hk7 k (by omega)) (fun _ _ => rfl)) hon ?_ (by rw [hk7 8 (by omega), l8, eR]; exact r8) (by rw [eR]; exact hr9.2.2) (by rw [hk7 9 (by omega), l9, eV]; exact r9) (by rw [eV]; exact hs9.2.1) (by rw [eV]; exact hs9.2.2) he heN (fun v L8 B8 M8 hM8 hf8 hg8 hb8 hv => hΦ v L8 B8 M8 hM8 (fr_t hf04 (fr_t hf5 (fr_t hf6 (fr_t hf7 hf8)))) hg8 (hb8.trans b4) ?_)
    · refine pQ_c (L := L4) (B := B4) ?_ (fun k k1 k2 => hk7 k (by omega)) rfl
      exact hj
    · obtain ⟨u, w, hu, hw, hv⟩ := hv
      have hu' := (dvN_e hem).mp hu
      rcases hv with ⟨v1, hv⟩ | ⟨v0, hv⟩
      · exact Or.inl ⟨v1, x, y, hk, hA, u, w, hu', hw, hv⟩
      · refine Or.inr ⟨v0, ?_⟩
        rintro ⟨x', y', hk', -, u', w', du, dw, hF⟩
        have ex : x' = x := by rw [hk'.2.1, hk.2.1]
        have ey : y' = y := by
          subst ex
          rcases hk.1 with ⟨n33, -⟩ | ⟨n65, -⟩
          · refine rt_u pP_pr pP_odd hk'.2.2.2.1 hk.2.2.2.1 (by rw [hk'.2.2.2.2.1, hk.2.2.2.2.1]) ?_
            have p1 := hk'.2.2.2.2.2.2 n33
            have p2 := hk.2.2.2.2.2.2 n33
            exact (nI_01 (Nat.mod_lt _ (by decide)) (Nat.mod_lt _ (by decide))).mp (p1.trans p2.symm)
          · rw [hk'.2.2.2.2.2.1 n65, hk.2.2.2.2.2.1 n65]
        have s0 : 0 < sgV h b := by rw [eV]; exact hs9.2.1
        have sN : sgV h b < nN := by rw [eV]; exact hs9.2.2
        rw [ex, ey, dvN_u s0 sN du hu', dvN_u s0 sN dw hw] at hF
        exact hv hF
  refine m_if (fun g => ?_) (fun g => ?_)
  · exact fin _ M6 _ hM6 (fr_r _ _ _) (fun k hk => up_n hk) (by rw [up_e]; exact h10) (hw5.mp g) rfl
  · have g : nN ≤ beN h z 32 := by
      apply Classical.byContradiction
      intro h'
      exact g (hw5.mpr (by omega))
    have hl := beN_lt h z 32
    have h2N := pN_2
    have hPT : 2 ^ 256 < 2 * nN := by decide +kernel
    have hl' : beN h z 32 < 2 ^ 256 := hl
    obtain ⟨f11, e11, h11⟩ := v_Sc_subtract_s1x4 fu (by omega) f10 (nv_sb h10)
    have n11 : nv f11 (beN h z 32 - nN) := nv_of h11.2 (by rw [h11.1, h10.2, W_4]; omega) (by omega)
    refine m_gr (hM6 0 (by decide)) rfl ⟨_, mal_c (hM6 10 (by decide)) (mal_n _), mnd_q hq [10] (by decide) (by decide), f11, e11, ?_⟩
    refine m_lf hM6 hq (sgC q cy n1 R (va_up (va_up L4 10 f10) 10 f11) B4) [10] (by decide) (fun k hk hn => sgC_c (up_n (fun e => hn (by simp [e]))) rfl) (fun M7 hM7 hf7 => ?_)
    refine fin _ M7 _ hM7 hf7 (fun k hk => by rw [up_n hk, up_n hk]) (by rw [up_e]; exact n11) (by omega) ?_
    rw [← Nat.mod_eq_sub_mod g]
