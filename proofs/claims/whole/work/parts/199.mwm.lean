-- the class's machine in the memory: the message
/-- what the message is made of, in the memory -/
def mxR (P : Nat → Prop) (C : Nat → va_E) (q : Nat → Nat) (cy : Nat → ClassId) (kr kc kb kr2 n n2 : Nat) (g g2 u3 u4 u6 u8 : Nat → Int32) (ca se : Nat) : Prop := ((138 ≤ kr ∧ P kr) ∧ (138 ≤ kc ∧ P kc) ∧ (138 ≤ kb ∧ P kb) ∧ 138 ≤ kr2 ∧ P kr2) ∧ (∃ txs e1 e2 e3 e4, C 120 = laO q (.ref (q kr)) txs e1 e2 e3 e4) ∧ C kr = .inl (cy 0, n, .inl g) ∧ C 121 = .inl (cy 1, 301, .inl u3) ∧ C 122 = .inl (cy 1, 301, .inl u4) ∧ C 124 = .inl (cy 1, 73, .inl u6) ∧ C 126 = .inl (cy 1, 73, .inl u8) ∧ (∃ fs, C kc = .inr (2, fs) ∧ fs[0]? = some (.ref (q kb)) ∧ fs[6]? = some (.int (nI ca)) ∧ fs[8]? = some (.int (nI se))) ∧ (∃ fs, C kb = .inr (1, fs) ∧ fs[1]? = some (.ref (q kr2))) ∧ C kr2 = .inl (cy 0, n2, .inl g2)
set_option maxHeartbeats 2000000 in
theorem mxR_c {P : Nat → Prop} {C C' : Nat → va_E} {q : Nat → Nat} {cy : Nat → ClassId} {kr kc kb kr2 n n2 : Nat} {g g2 u3 u4 u6 u8 : Nat → Int32} {ca se : Nat} (h : mxR P C q cy kr kc kb kr2 n n2 g g2 u3 u4 u6 u8 ca se) (e : ∀ k, 120 ≤ k → C' k = C k) : mxR P C' q cy kr kc kb kr2 n n2 g g2 u3 u4 u6 u8 ca se := by
  obtain ⟨⟨h1, h2, h3, h4⟩, h5, h6, h7, h8, h9, h10, h11, h12, h13⟩ := h
  refine ⟨⟨h1, h2, h3, h4⟩, ?_, ?_, ?_, ?_, ?_, ?_, ?_, ?_, ?_⟩
  · rw [e 120 (by decide)]; exact h5
  · rw [e kr (by omega)]; exact h6
  · rw [e 121 (by decide)]; exact h7
  · rw [e 122 (by decide)]; exact h8
  · rw [e 124 (by decide)]; exact h9
  · rw [e 126 (by decide)]; exact h10
  · rw [e kc (by omega)]; exact h11
  · rw [e kb (by omega)]; exact h12
  · rw [e kr2 (by omega)]; exact h13
/-- the class's arrays hold this transaction -/
def lmE (u3 u4 u6 u8 : Nat → Int32) (T : Tx5) (t i0 : Nat) : Prop := u3 t = nI T.1 ∧ u3 (t + 1) = nI T.2.2.2.2 ∧ u4 t = nI i0 ∧ u4 (t + 1) = nI (i0 + T.2.1.length) ∧ (∀ j, j < T.2.1.length → u6 (i0 + j) = nI (T.2.1.getD j d3).1 ∧ u8 (i0 + j) = nI ((T.2.1.getD j d3).2.1 + (T.2.1.getD j d3).2.2)) ∧ t + 1 < 301 ∧ i0 + T.2.1.length ≤ 73
/-- what the message leaves -/
def wmQ (P : Nat → Prop) (q : Nat → Nat) (cy : Nat → ClassId) (C : Nat → va_E) (D : Nat → Int32) (Z : List Int32) (Φ : Mm → Prop) : Prop := ∀ M' C' D' fl ln st w ck, RG P q C' M' → (∀ k, k ≠ 102 → k < 106 ∨ 109 < k → C' k = C k) → shR C' q cy fl ln st w ck → C' 102 = .inl (cy 0, 14928, .inl D') → (∀ j, D' j = if j < 32 then dbl (lf Z) Z.length j else D j) → Φ M'
set_option maxHeartbeats 2000000 in
theorem wmQ_c {P : Nat → Prop} {q : Nat → Nat} {cy : Nat → ClassId} {C C1 : Nat → va_E} {D : Nat → Int32} {Z : List Int32} {Φ : Mm → Prop} (h : wmQ P q cy C D Z Φ) (e : ∀ k, k ≠ 102 → k < 106 ∨ 109 < k → C1 k = C k) : wmQ P q cy C1 D Z Φ := fun M' C' D' fl ln st w ck h1 h2 h3 h4 h5 => h M' C' D' fl ln st w ck h1 (fun k k1 k2 => (h2 k k1 k2).trans (e k k1 k2)) h3 h4 h5
set_option maxHeartbeats 2000000 in
theorem w_wmE {P : Nat → Prop} {q : Nat → Nat} {cy : Nat → ClassId} (hq : IJ P q) (hP : ∀ k, k < 138 ∧ k ≠ 29 ∧ k ≠ 137 ∧ k ≠ 135 → P k) (fu MC MS : Nat) (hfu : 20000 ≤ fu) (ad : Nat → Nat) (mi : Nat) {Φ : Mm → Prop} (κ σ : Nat) {C : Nat → va_E} {M : Mm} (hM : RG P q C M) {h oh op i1 i2 fr inn mit : Int32} {co : Value} {kr kc kb kr2 n n2 : Nat} {g g2 u3 u4 u6 u8 : Nat → Int32} {ca se t : Nat} (e110 : C 110 = maO q h oh op i1 i2 fr (.ref (q 120)) (nI t) inn co mit) (hx : mxR P C q cy kr kc kb kr2 n n2 g g2 u3 u4 u6 u8 ca se) {fl : Int32} {ln : Int64} {st w ck D : Nat → Int32} (hs : shR C q cy fl ln st w ck) (e102 : C 102 = .inl (cy 0, 14928, .inl D)) (hn : n < 2 ^ 30) (hg : ∀ j, fits .byte (.int (g j)) = true) (hD : ftB D) {X : List Int32} {a e x3 : Nat} (hae : a ≤ e) (hen : e ≤ n) (he2 : e < 20000) (hX : X.length < 2 ^ 19) (hi : s_inv (lf (X ++ (bl g a (e - a) ++ [1, 0, 0, 0]))) X.length fl ln st ck) (ht : t + 1 < 301) (h3 : u3 (t + 1) = nI e) {i : Nat} (h4 : u4 (t + 1) = nI i) (hix : i ≤ x3) (hx3 : x3 < 2 ^ 30) (k41 : Nat → Nat → Mm → Nat → Option Nat → Int32 → Int32 → Prop) (hΦ : wmQ P q cy C D (X ++ (bl g a (e - a) ++ [1, 0, 0, 0])) Φ) : xv_mMa_writeMessage_41 fu MC MS cy ad mi Φ k41 κ σ M (q 110) (some (q kr)) (nI a) (nI x3) := by
  obtain ⟨⟨p1, p2, p3, p4, p5⟩, ⟨txs, y1, y2, y3, y4, e120⟩, ekr, e121, e122, e124, e126, hkc, hkb, ekr2⟩ := hx
  have g110 := g_at hM (hP 110 (by decide)) e110
  have g120 := g_at hM (hP 120 (by decide)) e120
  unfold xv_mMa_writeMessage_41
  show mgr M (q 110) 6 14 _
  refine m_grp g110 rfl (m_gr g120 rfl (m_gi g110 rfl (m_bn (nI_1 t) (m_ai (g_at hM (hP 122 (by decide)) e122) (inb_nI (by omega) (by decide)) ?_))))
  rw [nI_clamp (n := t + 1) (by omega), h4]
  refine m_t ((nI_leI (by omega) (by omega)).mpr hix) (m_gr g110 rfl (m_grp g110 rfl (m_gr g120 rfl (m_gi g110 rfl (m_bn (nI_1 t) (m_ai (g_at hM (hP 121 (by decide)) e121) (inb_nI (by omega) (by decide)) ?_))))))
  rw [nI_clamp (n := t + 1) (by omega), h3, show nI e = nI (a + (e - a)) from by rw [show a + (e - a) = e from by omega]]
  refine w_ShAdd hM hq hP p1.2 (by omega) ekr hs hfu hn (by omega) (by omega) (by omega) (fun j _ => hg _) hi _ (fun f1 l1 s1 w1 c1 M1 hM1 hi1 => ?_)
  have n1 : ∀ k, k < 106 ∨ 109 < k → shU C q cy f1 l1 s1 w1 c1 k = C k := fun k hk => shU_n hk
  have E1 : (X ++ (bl g a (e - a) ++ [1, 0, 0, 0])) = X ++ bl g a (e - a) ++ (bl (fun j => tb_3.getD j 0) 0 4 ++ []) := by rw [List.append_assoc]; rfl
  refine m_gr (g_at hM1 (hP 110 (by decide)) ((n1 110 (by decide)).trans e110)) rfl ?_
  rw [E1] at hi1
  refine w_ShAdd1 hM1 hq hP (shU_r C q cy f1 l1 s1 w1 c1) hfu (a := 0) (r := 4) (by decide) (by rw [List.length_append, bl_len]; omega) hi1 _ (fun f2 l2 s2 w2 c2 M2 hM2 hi2 => ?_)
  have n2 : ∀ k, k < 106 ∨ 109 < k → shU (shU C q cy f1 l1 s1 w1 c1) q cy f2 l2 s2 w2 c2 k = C k := fun k hk => by rw [shU_n hk, shU_n hk]
  rw [List.append_nil] at E1 hi2
  rw [← E1] at hi2
  obtain ⟨Z, hZ⟩ : ∃ Z, X ++ (bl g a (e - a) ++ [1, 0, 0, 0]) = Z := ⟨_, rfl⟩
  rw [hZ] at hi2 hΦ
  have h2r := shU_r (shU C q cy f1 l1 s1 w1 c1) q cy f2 l2 s2 w2 c2
  generalize shU (shU C q cy f1 l1 s1 w1 c1) q cy f2 l2 s2 w2 c2 = C2 at *
  refine m_gr (g_at hM2 (hP 110 (by decide)) ((n2 110 (by decide)).trans e110)) rfl (m_gr (g_at hM2 (hP 110 (by decide)) ((n2 110 (by decide)).trans e110)) rfl ?_)
  refine w_ShFin hM2 hq hP (hP 102 (by decide)) (by decide) ((n2 102 (by decide)).trans e102) h2r hfu (by decide) (o := 0) (by decide) hi2 _ (fun f3 s3 w3 c3 D3 M3 hM3 hD3 => ?_)
  have n3 : ∀ k, k ≠ 102 → k < 106 ∨ 109 < k → va_up (shU C2 q cy f3 l2 s3 w3 c3) 102 (.inl (cy 0, 14928, .inl D3)) k = C k := fun k h1 h2 => by rw [up_n h1, shU_n h2, n2 k h2]
  have h3r : shR (va_up (shU C2 q cy f3 l2 s3 w3 c3) 102 (.inl (cy 0, 14928, .inl D3))) q cy f3 l2 s3 w3 c3 := by
    obtain ⟨r1, r2, r3, r4⟩ := shU_r C2 q cy f3 l2 s3 w3 c3
    exact ⟨by rw [up_n (by decide)]; exact r1, by rw [up_n (by decide)]; exact r2, by rw [up_n (by decide)]; exact r3, by rw [up_n (by decide)]; exact r4⟩
  have m3 : va_up (shU C2 q cy f3 l2 s3 w3 c3) 102 (.inl (cy 0, 14928, .inl D3) : va_E) 102 = .inl (cy 0, 14928, .inl D3) := up_e
  generalize va_up (shU C2 q cy f3 l2 s3 w3 c3) 102 (.inl (cy 0, 14928, .inl D3)) = C3 at *
  have q1 : ∀ j, j < 32 → D3 j = s_ob (s_sh (lf Z) Z.length) j := fun j hj => by rw [hD3 j, if_pos (by omega), Nat.sub_zero]
  have q2 : ∀ j, 32 ≤ j → D3 j = D j := fun j hj => by rw [hD3 j, if_neg (by omega)]
  have hf3 : ftB D3 := fun j => by
    by_cases hj : j < 32
    · rw [q1 j hj]; exact s_ob_f _ _
    · rw [q2 j (by omega)]; exact hD j
  refine m_gr (g_at hM3 (hP 110 (by decide)) ((n3 110 (by decide) (by decide)).trans e110)) rfl ?_
  refine w_ShBegin hM3 hq hP h3r fu (lf ([] ++ (bl D3 0 32 ++ []))) _ (fun f4 l4 s4 M4 hM4 hi4 => ?_)
  have n4 : ∀ k, k < 106 ∨ 109 < k → shU C3 q cy f4 l4 s4 w3 c3 k = C3 k := fun k hk => shU_n hk
  have h4r := shU_r C3 q cy f4 l4 s4 w3 c3
  generalize shU C3 q cy f4 l4 s4 w3 c3 = C4 at *
  have e4 : C4 110 = maO q h oh op i1 i2 fr (.ref (q 120)) (nI t) inn co mit := ((n4 110 (by decide)).trans (n3 110 (by decide) (by decide))).trans e110
  refine m_gr (g_at hM4 (hP 110 (by decide)) e4) rfl (m_gr (g_at hM4 (hP 110 (by decide)) e4) rfl ?_)
  refine w_ShAdd hM4 hq hP (hP 102 (by decide)) (by decide) ((n4 102 (by decide)).trans m3) h4r hfu (by decide) (a := 0) (r := 32) (by decide) (by decide) (by decide) (fun j _ => hf3 _) hi4 _ (fun f5 l5 s5 w5 c5 M5 hM5 hi5 => ?_)
  have n5 : ∀ k, k < 106 ∨ 109 < k → shU C4 q cy f5 l5 s5 w5 c5 k = C3 k := fun k hk => by rw [shU_n hk, n4 k hk]
  have h5r := shU_r C4 q cy f5 l5 s5 w5 c5
  generalize shU C4 q cy f5 l5 s5 w5 c5 = C5 at *
  have e5 : C5 110 = maO q h oh op i1 i2 fr (.ref (q 120)) (nI t) inn co mit := ((n5 110 (by decide)).trans (n3 110 (by decide) (by decide))).trans e110
  refine m_gr (g_at hM5 (hP 110 (by decide)) e5) rfl (m_gr (g_at hM5 (hP 110 (by decide)) e5) rfl ?_)
  refine w_ShFin hM5 hq hP (hP 102 (by decide)) (by decide) ((n5 102 (by decide)).trans m3) h5r hfu (by decide) (o := 0) (by decide) hi5 _ (fun f6 s6 w6 c6 D6 M6 hM6 hD6 => ?_)
  refine hΦ M6 _ D6 f6 l5 s6 w6 c6 hM6 (fun k k1 k2 => ?_) ?_ up_e (fun j => ?_)
  · rw [up_n k1, shU_n k2, n5 k k2, n3 k k1 k2]
  · obtain ⟨r1, r2, r3, r4⟩ := shU_r C5 q cy f6 l5 s6 w6 c6
    exact ⟨by rw [up_n (by decide)]; exact r1, by rw [up_n (by decide)]; exact r2, by rw [up_n (by decide)]; exact r3, by rw [up_n (by decide)]; exact r4⟩
  · rw [hD6 j]
    by_cases hj : j < 32
    · rw [if_pos (by omega), if_pos hj, Nat.sub_zero]
      show s_ob (s_sh (lf ([] ++ (bl D3 0 32 ++ []))) 32) j = s_ob (s_sh (fun i => s_ob (s_sh (lf Z) Z.length) i) 32) j
      rw [s_sh_c (m := lf ([] ++ (bl D3 0 32 ++ []))) (m' := fun i => s_ob (s_sh (lf Z) Z.length) i) (n := 32) (fun i hi => ?_)]
      have := lf_mid (X := []) (Y := []) (h := D3) (a := 0) hi
      rw [List.length_nil, Nat.zero_add] at this
      rw [this, q1 i hi]
    · rw [if_neg (by omega), if_neg hj, q2 j (by omega)]
