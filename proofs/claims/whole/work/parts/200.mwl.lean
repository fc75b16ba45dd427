-- the class's machine in the memory: the message's loop
set_option maxHeartbeats 2000000 in
theorem w_wm41 {P : Nat → Prop} {q : Nat → Nat} {cy : Nat → ClassId} (hq : IJ P q) (hP : ∀ k, k < 138 ∧ k ≠ 29 ∧ k ≠ 137 ∧ k ≠ 135 → P k) (fu MC MS : Nat) (hfu : 20000 ≤ fu) (ad : Nat → Nat) (mi : Nat) {Φ : Mm → Prop} (κ σ : Nat) {h oh op i1 i2 fr mit : Int32} {kr kc kb kr2 n n2 : Nat} {g g2 u3 u4 u6 u8 : Nat → Int32} {ca se t i0 k : Nat} {T : Tx5} (hl : lmE u3 u4 u6 u8 T t i0) (hk : k < 200) {D : Nat → Int32} (hn : n < 2 ^ 30) (hg : ∀ j, fits .byte (.int (g j)) = true) (hn2 : n2 < 2 ^ 30) (hg2 : ∀ j, fits .byte (.int (g2 j)) = true) (hD : ftB D) (hen : T.2.2.2.2 ≤ n) (he2 : T.2.2.2.2 ≤ 3000) (hce : T.2.2.1 ≤ T.2.2.2.2) {sc : List Int32} (hsc : bl g2 ca (se - ca) = cbL sc.length ++ sc) (hcs : ca ≤ se) (hse : se ≤ n2) (hse2 : se ≤ 3000) : ∀ I j a b X N C M fl ln st w ck, RG P q C M → C 110 = maO q h oh op i1 i2 fr (.ref (q 120)) (nI t) (nI (i0 + k)) (.ref (q kc)) mit → mxR P C q cy kr kc kb kr2 n n2 g g2 u3 u4 u6 u8 ca se → shR C q cy fl ln st w ck → C 102 = .inl (cy 0, 14928, .inl D) → T.2.1.drop j = I → j + I.length = T.2.1.length → I.length < N → a ≤ b → cgI b I T.2.2.1 → X.length + 6100 * I.length < 2 ^ 18 + 2 ^ 18 → s_inv (lf (X ++ ctx g sc k T.2.2.2.2 a I j)) X.length fl ln st ck → wmQ P q cy C D (X ++ ctx g sc k T.2.2.2.2 a I j) Φ → xw_mMa_writeMessage_41 fu MC MS cy ad mi Φ N κ σ M (q 110) (some (q kr)) (nI a) (nI (i0 + j)) := by
  obtain ⟨l1, l2, l3, l4, l5, l6, l7⟩ := hl
  intro I
  induction I with
  | nil =>
    intro j a b X N C M fl ln st w ck hM e110 hx hs e102 hI hj hN hab hcg hX hi hΦ
    obtain ⟨N, rfl⟩ : ∃ m, N = m + 1 := ⟨N - 1, by omega⟩
    replace hcg : b = T.2.2.1 := hcg
    replace hj : j + 0 = T.2.1.length := hj
    replace hX : X.length + 6100 * 0 < 2 ^ 18 + 2 ^ 18 := hX
    exact w_wmE hq hP fu MC MS hfu ad mi κ σ hM e110 hx hs e102 hn hg hD (by omega) hen (by omega) (by omega) hi l6 l2 l4 (by omega) (by omega) _ hΦ
  | cons i I ih =>
    intro j a b X N C M fl ln st w ck hM e110 hx hs e102 hI hj hN hab hcg hX hi hΦ
    obtain ⟨N, rfl⟩ : ∃ m, N = m + 1 := ⟨N - 1, by omega⟩
    replace hj : j + (I.length + 1) = T.2.1.length := hj
    replace hX : X.length + 6100 * (I.length + 1) < 2 ^ 18 + 2 ^ 18 := hX
    replace hN : I.length + 1 < N + 1 := hN
    obtain ⟨c1, c2, c3⟩ := hcg
    have cl := cgI_le I _ _ c3
    have hd : T.2.1.drop (j + 1) = I := by
      rw [← List.drop_drop, hI]
      rfl
    have hgi : T.2.1.getD j d3 = i := by
      show (T.2.1[j]?).getD d3 = i
      have : (T.2.1.drop j)[0]? = some i := by rw [hI]; rfl
      rw [List.getElem?_drop, Nat.add_zero] at this
      rw [this]
      rfl
    obtain ⟨f6, f8⟩ := l5 j (by omega)
    rw [hgi] at f6 f8
    have hx' := hx
    obtain ⟨⟨p1, p2, p3, p4, p5⟩, ⟨txs, y1, y2, y3, y4, e120⟩, ekr, e121, e122, e124, e126, ⟨fc, ekc, kc0, kc6, kc8⟩, ⟨fb, ekb, kb1⟩, ekr2⟩ := hx
    have g110 := g_at hM (hP 110 (by decide)) e110
    have g120 := g_at hM (hP 120 (by decide)) e120
    show xv_mMa_writeMessage_41 fu MC MS cy ad mi Φ (xw_mMa_writeMessage_41 fu MC MS cy ad mi Φ N) κ σ M (q 110) (some (q kr)) (nI a) (nI (i0 + j))
    unfold xv_mMa_writeMessage_41
    show mgr M (q 110) 6 14 _
    refine m_grp g110 rfl (m_gr g120 rfl (m_gi g110 rfl (m_bn (nI_1 t) (m_ai (g_at hM (hP 122 (by decide)) e122) (inb_nI (by omega) (by decide)) ?_))))
    rw [nI_clamp (n := t + 1) (by omega), l4]
    refine m_f (fun e => by have := (nI_leI (by omega) (by omega)).mp e; omega) (m_gr g110 rfl (m_grp g110 rfl (m_gr g120 rfl (m_ai (g_at hM (hP 124 (by decide)) e124) (inb_nI (by omega) (by decide)) ?_))))
    rw [nI_clamp (n := i0 + j) (by omega), f6]
    refine m_bn (e' := nI (a + (i.1 + 36 - a))) (by rw [show a + (i.1 + 36 - a) = i.1 + 36 from by omega]; exact nI_add _ _) ?_
    have E0 : X ++ ctx g sc k T.2.2.2.2 a (i :: I) j = X ++ (bl g a (i.1 + 36 - a) ++ (scJ sc k j ++ ctx g sc k T.2.2.2.2 (i.2.1 + i.2.2) I (j + 1))) := rfl
    rw [E0] at hi hΦ
    refine w_ShAdd hM hq hP p1.2 (by omega) ekr hs hfu hn (by omega) (by omega) (by omega) (fun j _ => hg _) hi _ (fun f1 n1 s1 w1 k1 M1 hM1 hi1 => ?_)
    have a1 : ∀ k, k < 106 ∨ 109 < k → shU C q cy f1 n1 s1 w1 k1 k = C k := fun k hk => shU_n hk
    have r1 := shU_r C q cy f1 n1 s1 w1 k1
    generalize shU C q cy f1 n1 s1 w1 k1 = C1 at *
    have b110 : C1 110 = maO q h oh op i1 i2 fr (.ref (q 120)) (nI t) (nI (i0 + k)) (.ref (q kc)) mit := (a1 110 (by decide)).trans e110
    have h110 := g_at hM1 (hP 110 (by decide)) b110
    have E1 : X ++ (bl g a (i.1 + 36 - a) ++ (scJ sc k j ++ ctx g sc k T.2.2.2.2 (i.2.1 + i.2.2) I (j + 1))) = X ++ bl g a (i.1 + 36 - a) ++ (scJ sc k j ++ ctx g sc k T.2.2.2.2 (i.2.1 + i.2.2) I (j + 1)) := by rw [List.append_assoc]
    rw [E1] at hi1 hΦ
    have lX : (X ++ bl g a (i.1 + 36 - a)).length ≤ X.length + 3000 := by rw [List.length_append, bl_len]; omega
    generalize X ++ bl g a (i.1 + 36 - a) = X1 at *
    -- what comes behind the script
    have G : ∀ C2 M2 fl ln st w ck, RG P q C2 M2 → (∀ k, k < 106 ∨ 109 < k → C2 k = C1 k) → shR C2 q cy fl ln st w ck → s_inv (lf (X1 ++ (scJ sc k j ++ ctx g sc k T.2.2.2.2 (i.2.1 + i.2.2) I (j + 1)))) (X1 ++ scJ sc k j).length fl ln st ck → (X1 ++ scJ sc k j).length ≤ X.length + 6100 → xv_mMa_writeMessage_134 fu MC MS cy ad mi Φ (xw_mMa_writeMessage_41 fu MC MS cy ad mi Φ N) κ σ M2 (q 110) (q kr) (nI (i0 + j)) := fun C2 M2 fl ln st w ck hM2 a2 r2 hi2 hl2 => by
      have a3 : ∀ k, k < 106 ∨ 109 < k → C2 k = C k := fun k hk => (a2 k hk).trans (a1 k hk)
      have c110 : C2 110 = maO q h oh op i1 i2 fr (.ref (q 120)) (nI t) (nI (i0 + k)) (.ref (q kc)) mit := (a3 110 (by decide)).trans e110
      have h110 := g_at hM2 (hP 110 (by decide)) c110
      unfold xv_mMa_writeMessage_134
      refine m_grp h110 rfl (m_gr (g_at hM2 (hP 120 (by decide)) ((a3 120 (by decide)).trans e120)) rfl (m_ai (g_at hM2 (hP 126 (by decide)) ((a3 126 (by decide)).trans e126)) (inb_nI (by omega) (by decide)) ?_))
      rw [nI_clamp (n := i0 + j) (by omega), f8]
      refine m_bn (nI_1 _) ?_
      rw [← List.append_assoc] at hi2 hΦ
      exact ih (j + 1) (i.2.1 + i.2.2) (i.2.1 + i.2.2 + 4) (X1 ++ scJ sc k j) N C2 M2 fl ln st w ck hM2 c110 (mxR_c hx' (fun k hk => a3 k (by omega))) r2 ((a3 102 (by decide)).trans e102) hd (by omega) (by omega) (by omega) c3 (by omega) hi2 (wmQ_c hΦ (fun k k1 k2 => a3 k k2))
    refine m_gi h110 rfl ?_
    by_cases c : j = k
    · subst c
      have eS : scJ sc j j = bl g2 ca (se - ca) := by unfold scJ; rw [if_pos rfl, hsc]
      have gkc := g_at hM1 p2.2 ((a1 kc (by omega)).trans ekc)
      refine m_t rfl (m_gr h110 rfl (m_grp h110 rfl (m_gr gkc kc0 (m_gr (g_at hM1 p3.2 ((a1 kb (by omega)).trans ekb)) kb1 (m_grp h110 rfl (m_gi gkc kc6 (m_grp h110 rfl (m_gi gkc kc8 ?_))))))))
      rw [show nI se = nI (ca + (se - ca)) from by rw [show ca + (se - ca) = se from by omega]]
      rw [eS] at hi1 G
      refine w_ShAdd hM1 hq hP p5 (by omega) ((a1 kr2 (by omega)).trans ekr2) r1 hfu hn2 (by omega) (by omega) (by omega) (fun j _ => hg2 _) hi1 _ (fun f2 m2 s2 w2 k2 M2 hM2 hi2 => ?_)
      exact G _ M2 f2 m2 s2 w2 k2 hM2 (fun k hk => shU_n hk) (shU_r _ _ _ _ _ _ _ _) hi2 (by rw [List.length_append, bl_len]; omega)
    · have eS : scJ sc k j = bl (fun j => tb_3.getD j 0) 1 1 := by unfold scJ; rw [if_neg c]; rfl
      refine m_f (fun e => c (by have := (nI_eq (by omega) (by omega)).mp e; omega)) (m_gr h110 rfl ?_)
      rw [eS] at hi1 G
      refine w_ShAdd1 hM1 hq hP r1 hfu (a := 1) (r := 1) (by decide) (by omega) hi1 _ (fun f2 m2 s2 w2 k2 M2 hM2 hi2 => ?_)
      exact G _ M2 f2 m2 s2 w2 k2 hM2 (fun k hk => shU_n hk) (shU_r _ _ _ _ _ _ _ _) hi2 (by rw [List.length_append, bl_len]; omega)
