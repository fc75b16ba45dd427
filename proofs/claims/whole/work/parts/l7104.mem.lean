theorem q_metT_of {l : Launch} {cc : ByteArray} {y : MethodName} {nL : Nat} {rt : Option FieldType} {X : String} {Pc : Array Value → State → Prop} (hy : plainName y.cls = true)
    (body : ∀ p e s m args below meth c s₁, BodyLoose p l y (headSpec (.code y cc nL rt :: gw) rm_T) cc nL rt e s m args below meth c s₁ → c.maxLocals = nL → Pc args s → W p l e (headSpec (.code y cc nL rt :: gw) rm_T).room s m args below meth c s.heap [] 0 0 (MQT below X s) (entryFrame m args nL)) : MetT l y (.code y cc nL rt :: gw) rm_T Pc X := by
  refine MetFree.of_bodyS (code := cc) (maxLocals := nL) (ret := rt) hy ?_ ?_
  · intro args s m h hn
    obtain ⟨meth, c, h1, h2, h3, h4, h5, h6, -, -⟩ := Cond.code_spec hn (atoms_spec (ws := .code y cc nL rt :: gw) h _ List.mem_cons_self)
    exact ⟨meth, c, h1, h2, h3, h4, h5, h6⟩
  · intro p e s m args below meth c s₁ B hml hv _
    have hh0 : s₁.heap = s.heap := by rw [B.state]; rfl
    obtain ⟨t, a1, x, b1, b2, b3⟩ := body p e s m args below meth c s₁ B hml hv s₁ hh0 (Stand.of_body B)
    exact ⟨t, .threw x, a1, b1, b2, x, rfl, b3⟩
section EX8
variable {l : Launch} {cc : ByteArray} {D : va_G} {cy : Nat → ClassId} {ad : Nat → Nat} {mi : Nat} {wc : va_W}
theorem q_metTM {y : MethodName} {nL : Nat} {rt : Option FieldType} {own X : String} {av : List Value} (hy : plainName y.cls = true) (hown : y.cls = own) {nm : String} (hnm : y.name = nm) (hlen : (lg_sl av).length ≤ nL)
    (body : ∀ (p : Program) (e : Env) (s : State) (m : MethodId) (below : List Frame) (meth : Method) (c : Code) (ls : Array Slot), FxM p s m av.toArray meth c cc nL own nm rt D cy ad mi (va_A wc s.heap.size) → va_P D classes wc s.heap → va_D (va_A wc s.heap.size) wc → va_S (va_A wc s.heap.size) s.heap s.heap [] → lv_has ls nL (lv_args 0 av) → W p l e rm_T s m av.toArray below meth c s.heap [] 0 0 (MQT below X s) (F0 m 0 ls []))
    (sz : Nat) : MetT l y (.code y cc nL rt :: gw) rm_T (va_Pc av (PrM D cy ad mi wc sz)) X := by
  refine q_metT_of hy ?_
  intro p e s m args below meth c s₁ B hml hv
  obtain ⟨rfl, ⟨hsz, hP, hK, hD0, hSt⟩, hT, hMi⟩ := hv
  subst hsz
  subst hown
  subst hnm
  have hts := atoms_spec (ws := .code y cc nL rt :: gw) B.pre
  have hl := lv_entry av (n := nL) hlen
  rw [lg_entry_eq]
  exact body p e s m below meth c _ ⟨⟨B.exec, B.bytes, B.returns, hml, findClass_of_methodNamed B.named, fun w h => hts w (List.mem_cons_of_mem _ h), B.notSynchronized, hK, fun q h => Or.inr h, hSt, (name_of_methodNamed B.named B.method).1, B.noHandlers (hts _ List.mem_cons_self)⟩, hT, hMi⟩ hP hD0.self va_S.rf hl
end EX8
set_option maxRecDepth 100000 in
theorem tn_mK_feed_S (l : Launch) (hlt : ∀ e, l.admits e → e.platform.stackTraces = false) (D : va_G) (cy : Nat → ClassId) (ad : Nat → Nat) (mi : Nat) (a0 : Nat) (a1 : Int32) (a2 : Int32) (a3 : Int32) (a4 : Int32) (a5 : Int32) (M : Mm) (hf : xn_mK_feed_S cy ad M a0 a1 a2 a3 a4 a5) (sz : Nat) : MetT l ({ cls := "CoinKeeper", name := "feed", desc := "(IIIII)I" } : Jvm.MethodName) (.code ({ cls := "CoinKeeper", name := "feed", desc := "(IIIII)I" } : Jvm.MethodName) b_K_feed 6 (some .int) :: gw) rm_T (va_Pc [.ref a0, .int a1, .int a2, .int a3, .int a4, .int a5] (PrM D cy ad mi (mw M) sz)) "java/lang/IllegalStateException" := by
  refine q_metTM (by decide) rfl rfl (Nat.le_of_ble_eq_true rfl) (fun p e s m below meth c ls F hP hD hS hl => ?_) sz
  obtain ⟨⟨hx, hb, hr, hml, hown, hts, hlocks, hK, hA, hSt, hnm, hex⟩, hT, hMi⟩ := id F
  unfold xn_mK_feed_S at hf
  refine lv_aload_n hx hb d_K_feed_0 rfl (lv_at hl 0 rfl) ?_
  obtain ⟨fs_, hm_, v1, hv_, hf⟩ := hf
  obtain ⟨ix_, hi_⟩ := m_ix hm_
  refine va_get (D := D) (ci := 0) (v := .int v1) (C := "CoinKeeper") (T := F_0) (N := 13) hx hb hts i_0 hown hK hP ix_ hi_ rfl 1 (by decide) (hts _ gw_501) (fun _ h9 => h9) hv_ d_K_feed_1 ?_
  clear hv_ hi_ hm_
  refine lv_bipush (v := 20) hx hb d_K_feed_4 (by decide) ?_
  refine lv_iadd hx hb d_K_feed_6 ?_
  refine lv_topi (fun v2 ev => ?_)
  have hf := bnQ ev hf
  clear ev
  refine lv_sipush (v := 3000) hx hb d_K_feed_7 (by decide) ?_
  refine lv_icmp_le (tgt := 21) hx hb d_K_feed_10 (by decide) (fun cx => ?_) (fun cx => ?_)
  · have hf := ifpP cx hf
    refine lv_aload_n hx hb d_K_feed_21 rfl (lv_at hl 0 rfl) ?_
    refine lv_iload_n hx hb d_K_feed_22 rfl (lv_at hl 1 rfl) ?_
    exact hf.elim
  · have hf := ifnP cx hf
    exact q_throw hlt hx hb hml hl.1 hlocks hown (by decide +kernel) (by decide +kernel) (ow_s hts hSt.2.1 hT) (hts _ gw_576) (hts _ gw_23) hex (Nat.le_of_ble_eq_true rfl) (Nat.le_of_ble_eq_true rfl) (by decide) (by decide) d_K_feed_13 d_K_feed_16 d_K_feed_17 d_K_feed_20
set_option maxRecDepth 100000 in
theorem tn_mK_end_A (l : Launch) (hlt : ∀ e, l.admits e → e.platform.stackTraces = false) (D : va_G) (cy : Nat → ClassId) (ad : Nat → Nat) (mi : Nat) (a0 : Nat) (a1 : Int32) (M : Mm) (hf : xn_mK_end_A cy ad M a0 a1) (sz : Nat) : MetT l ({ cls := "CoinKeeper", name := "end", desc := "(I)I" } : Jvm.MethodName) (.code ({ cls := "CoinKeeper", name := "end", desc := "(I)I" } : Jvm.MethodName) b_K_end 2 (some .int) :: gw) rm_T (va_Pc [.ref a0, .int a1] (PrM D cy ad mi (mw M) sz)) "java/lang/IllegalArgumentException" := by
  refine q_metTM (by decide) rfl rfl (Nat.le_of_ble_eq_true rfl) (fun p e s m below meth c ls F hP hD hS hl => ?_) sz
  obtain ⟨⟨hx, hb, hr, hml, hown, hts, hlocks, hK, hA, hSt, hnm, hex⟩, hT, hMi⟩ := id F
  unfold xn_mK_end_A at hf
  refine lv_iload_n hx hb d_K_end_0 rfl (lv_at hl 1 rfl) ?_
  refine lv_if_lt (tgt := 12) hx hb d_K_end_1 (by decide) (fun cx => ?_) (fun cx => ?_)
  · have hf := ifpP cx hf
    exact q_throw hlt hx hb hml hl.1 hlocks hown (by decide +kernel) (by decide +kernel) (ow_a hts hSt.2.1 hT) (hts _ gw_651) (hts _ gw_24) hex (Nat.le_of_ble_eq_true rfl) (Nat.le_of_ble_eq_true rfl) (by decide) (by decide) d_K_end_12 d_K_end_15 d_K_end_16 d_K_end_19
  · have hf := ifnP cx hf
    refine lv_iload_n hx hb d_K_end_4 rfl (lv_at hl 1 rfl) ?_
    refine lv_aload_n hx hb d_K_end_5 rfl (lv_at hl 0 rfl) ?_
    obtain ⟨fs_, hm_, v1, hv_, hf⟩ := hf
    obtain ⟨ix_, hi_⟩ := m_ix hm_
    refine va_get (D := D) (ci := 0) (v := .int v1) (C := "CoinKeeper") (T := F_0) (N := 13) hx hb hts i_0 hown hK hP ix_ hi_ rfl 1 (by decide) (hts _ gw_501) (fun _ h9 => h9) hv_ d_K_end_6 ?_
    clear hv_ hi_ hm_
    refine lv_icmp_le (tgt := 20) hx hb d_K_end_9 (by decide) (fun cx => ?_) (fun cx => ?_)
    · have hf := ifpP cx hf
      refine lv_aload_n hx hb d_K_end_20 rfl (lv_at hl 0 rfl) ?_
      refine lv_iload_n hx hb d_K_end_21 rfl (lv_at hl 1 rfl) ?_
      exact hf.elim
    · have hf := ifnP cx hf
      exact q_throw hlt hx hb hml hl.1 hlocks hown (by decide +kernel) (by decide +kernel) (ow_a hts hSt.2.1 hT) (hts _ gw_651) (hts _ gw_24) hex (Nat.le_of_ble_eq_true rfl) (Nat.le_of_ble_eq_true rfl) (by decide) (by decide) d_K_end_12 d_K_end_15 d_K_end_16 d_K_end_19
set_option maxRecDepth 100000 in
theorem tn_mK_script_A (l : Launch) (hlt : ∀ e, l.admits e → e.platform.stackTraces = false) (D : va_G) (cy : Nat → ClassId) (ad : Nat → Nat) (mi : Nat) (a0 : Nat) (a1 : Int32) (M : Mm) (hf : xn_mK_script_A cy ad M a0 a1) (sz : Nat) : MetT l ({ cls := "CoinKeeper", name := "script", desc := "(I)Z" } : Jvm.MethodName) (.code ({ cls := "CoinKeeper", name := "script", desc := "(I)Z" } : Jvm.MethodName) b_K_script 2 (some .boolean) :: gw) rm_T (va_Pc [.ref a0, .int a1] (PrM D cy ad mi (mw M) sz)) "java/lang/IllegalArgumentException" := by
  refine q_metTM (by decide) rfl rfl (Nat.le_of_ble_eq_true rfl) (fun p e s m below meth c ls F hP hD hS hl => ?_) sz
  obtain ⟨⟨hx, hb, hr, hml, hown, hts, hlocks, hK, hA, hSt, hnm, hex⟩, hT, hMi⟩ := id F
  unfold xn_mK_script_A at hf
  refine lv_iload_n hx hb d_K_script_0 rfl (lv_at hl 1 rfl) ?_
  refine lv_if_lt (tgt := 31) hx hb d_K_script_1 (by decide) (fun cx => ?_) (fun cx => ?_)
  · have hf := ifpP cx hf
    exact q_throw hlt hx hb hml hl.1 hlocks hown (by decide +kernel) (by decide +kernel) (ow_a hts hSt.2.1 hT) (hts _ gw_651) (hts _ gw_24) hex (Nat.le_of_ble_eq_true rfl) (Nat.le_of_ble_eq_true rfl) (by decide) (by decide) d_K_script_31 d_K_script_34 d_K_script_35 d_K_script_38
  · have hf := ifnP cx hf
    refine lv_iload_n hx hb d_K_script_4 rfl (lv_at hl 1 rfl) ?_
    refine lv_aload_n hx hb d_K_script_5 rfl (lv_at hl 0 rfl) ?_
    obtain ⟨fs_, hm_, v1, hv_, hf⟩ := hf
    obtain ⟨ix_, hi_⟩ := m_ix hm_
    refine va_get (D := D) (ci := 0) (v := .int v1) (C := "CoinKeeper") (T := F_0) (N := 13) hx hb hts i_0 hown hK hP ix_ hi_ rfl 1 (by decide) (hts _ gw_501) (fun _ h9 => h9) hv_ d_K_script_6 ?_
    clear hv_ hi_ hm_
    refine lv_icmp_gt (tgt := 31) hx hb d_K_script_9 (by decide) (fun cx => ?_) (fun cx => ?_)
    · have hf := ifpP cx hf
      exact q_throw hlt hx hb hml hl.1 hlocks hown (by decide +kernel) (by decide +kernel) (ow_a hts hSt.2.1 hT) (hts _ gw_651) (hts _ gw_24) hex (Nat.le_of_ble_eq_true rfl) (Nat.le_of_ble_eq_true rfl) (by decide) (by decide) d_K_script_31 d_K_script_34 d_K_script_35 d_K_script_38
    · have hf := ifnP cx hf
      refine lv_iload_n hx hb d_K_script_12 rfl (lv_at hl 1 rfl) ?_
      refine lv_sipush (v := 1000) hx hb d_K_script_13 (by decide) ?_
      refine lv_icmp_gt (tgt := 31) hx hb d_K_script_16 (by decide) (fun cx => ?_) (fun cx => ?_)
      · have hf := ifpP cx hf
        exact q_throw hlt hx hb hml hl.1 hlocks hown (by decide +kernel) (by decide +kernel) (ow_a hts hSt.2.1 hT) (hts _ gw_651) (hts _ gw_24) hex (Nat.le_of_ble_eq_true rfl) (Nat.le_of_ble_eq_true rfl) (by decide) (by decide) d_K_script_31 d_K_script_34 d_K_script_35 d_K_script_38
      · have hf := ifnP cx hf
        refine lv_aload_n hx hb d_K_script_19 rfl (lv_at hl 0 rfl) ?_
        obtain ⟨fs_, hm_, v2, hv_, hf⟩ := hf
        obtain ⟨ix_, hi_⟩ := m_ix hm_
        refine va_get (D := D) (ci := 0) (v := .int v2) (C := "CoinKeeper") (T := F_0) (N := 13) hx hb hts i_0 hown hK hP ix_ hi_ rfl 1 (by decide) (hts _ gw_501) (fun _ h9 => h9) hv_ d_K_script_20 ?_
        clear hv_ hi_ hm_
        refine lv_iload_n hx hb d_K_script_23 rfl (lv_at hl 1 rfl) ?_
        refine lv_isub hx hb d_K_script_24 ?_
        refine lv_topi (fun v3 ev => ?_)
        have hf := bnQ ev hf
        clear ev
        refine lv_sipush (v := 1000) hx hb d_K_script_25 (by decide) ?_
        refine lv_icmp_le (tgt := 39) hx hb d_K_script_28 (by decide) (fun cx => ?_) (fun cx => ?_)
        · have hf := ifpP cx hf
          refine lv_aload_n hx hb d_K_script_39 rfl (lv_at hl 0 rfl) ?_
          obtain ⟨fs_, hm_, r4, hv_, hf⟩ := hf
          obtain ⟨ix_, hi_⟩ := m_ix hm_
          refine va_get (D := D) (ci := 0) (v := va_rf r4) (C := "CoinKeeper") (T := F_0) (N := 13) hx hb hts i_0 hown hK hP ix_ hi_ rfl 5 (by decide) (hts _ gw_505) (fun _ h9 => h9) hv_ d_K_script_40 ?_
          clear hv_ hi_ hm_
          obtain ⟨q5, rfl, hf⟩ := hf
          refine W.eq (g2 := F0 m 43 ls [.ref q5]) rfl ?_
          refine lv_iconst (v := 0) hx hb d_K_script_43 (by decide) ?_
          refine lv_aload_n hx hb d_K_script_44 rfl (lv_at hl 0 rfl) ?_
          obtain ⟨fs_, hm_, r6, hv_, hf⟩ := hf
          obtain ⟨ix_, hi_⟩ := m_ix hm_
          refine va_get (D := D) (ci := 0) (v := va_rf r6) (C := "CoinKeeper") (T := F_0) (N := 13) hx hb hts i_0 hown hK hP ix_ hi_ rfl 0 (by decide) (hts _ gw_500) (fun _ h9 => h9) hv_ d_K_script_45 ?_
          clear hv_ hi_ hm_
          obtain ⟨q7, rfl, hf⟩ := hf
          refine W.eq (g2 := F0 m 48 ls [.ref q7, .int (0 : Int32), .ref q5]) rfl ?_
          refine lv_iconst (v := 0) hx hb d_K_script_48 (by decide) ?_
          refine lv_iload_n hx hb d_K_script_49 rfl (lv_at hl 1 rfl) ?_
          exact hf.elim
        · have hf := ifnP cx hf
          exact q_throw hlt hx hb hml hl.1 hlocks hown (by decide +kernel) (by decide +kernel) (ow_a hts hSt.2.1 hT) (hts _ gw_651) (hts _ gw_24) hex (Nat.le_of_ble_eq_true rfl) (Nat.le_of_ble_eq_true rfl) (by decide) (by decide) d_K_script_31 d_K_script_34 d_K_script_35 d_K_script_38
set_option maxRecDepth 100000 in
theorem tn_mK_hash_A (l : Launch) (hlt : ∀ e, l.admits e → e.platform.stackTraces = false) (D : va_G) (cy : Nat → ClassId) (ad : Nat → Nat) (mi : Nat) (a0 : Nat) (a1 : Int32) (M : Mm) (hf : xn_mK_hash_A cy ad M a0 a1) (sz : Nat) : MetT l ({ cls := "CoinKeeper", name := "hash", desc := "(I)I" } : Jvm.MethodName) (.code ({ cls := "CoinKeeper", name := "hash", desc := "(I)I" } : Jvm.MethodName) b_K_hash 2 (some .int) :: gw) rm_T (va_Pc [.ref a0, .int a1] (PrM D cy ad mi (mw M) sz)) "java/lang/IllegalArgumentException" := by
  refine q_metTM (by decide) rfl rfl (Nat.le_of_ble_eq_true rfl) (fun p e s m below meth c ls F hP hD hS hl => ?_) sz
  obtain ⟨⟨hx, hb, hr, hml, hown, hts, hlocks, hK, hA, hSt, hnm, hex⟩, hT, hMi⟩ := id F
  unfold xn_mK_hash_A at hf
  refine lv_iload_n hx hb d_K_hash_0 rfl (lv_at hl 1 rfl) ?_
  refine lv_if_lt (tgt := 10) hx hb d_K_hash_1 (by decide) (fun cx => ?_) (fun cx => ?_)
  · have hf := ifpP cx hf
    exact q_throw hlt hx hb hml hl.1 hlocks hown (by decide +kernel) (by decide +kernel) (ow_a hts hSt.2.1 hT) (hts _ gw_651) (hts _ gw_24) hex (Nat.le_of_ble_eq_true rfl) (Nat.le_of_ble_eq_true rfl) (by decide) (by decide) d_K_hash_10 d_K_hash_13 d_K_hash_14 d_K_hash_17
  · have hf := ifnP cx hf
    refine lv_iload_n hx hb d_K_hash_4 rfl (lv_at hl 1 rfl) ?_
    refine lv_bipush (v := 7) hx hb d_K_hash_5 (by decide) ?_
    refine lv_icmp_le (tgt := 18) hx hb d_K_hash_7 (by decide) (fun cx => ?_) (fun cx => ?_)
    · have hf := ifpP cx hf
      refine lv_aload_n hx hb d_K_hash_18 rfl (lv_at hl 0 rfl) ?_
      obtain ⟨fs_, hm_, r1, hv_, hf⟩ := hf
      obtain ⟨ix_, hi_⟩ := m_ix hm_
      refine va_get (D := D) (ci := 0) (v := va_rf r1) (C := "CoinKeeper") (T := F_0) (N := 13) hx hb hts i_0 hown hK hP ix_ hi_ rfl 3 (by decide) (hts _ gw_503) (fun _ h9 => h9) hv_ d_K_hash_19 ?_
      clear hv_ hi_ hm_
      obtain ⟨q2, rfl, hf⟩ := hf
      refine W.eq (g2 := F0 m 22 ls [.ref q2]) rfl ?_
      refine lv_aload_n hx hb d_K_hash_22 rfl (lv_at hl 0 rfl) ?_
      obtain ⟨fs_, hm_, r3, hv_, hf⟩ := hf
      obtain ⟨ix_, hi_⟩ := m_ix hm_
      refine va_get (D := D) (ci := 0) (v := va_rf r3) (C := "CoinKeeper") (T := F_0) (N := 13) hx hb hts i_0 hown hK hP ix_ hi_ rfl 0 (by decide) (hts _ gw_500) (fun _ h9 => h9) hv_ d_K_hash_23 ?_
      clear hv_ hi_ hm_
      obtain ⟨q4, rfl, hf⟩ := hf
      refine W.eq (g2 := F0 m 26 ls [.ref q4, .ref q2]) rfl ?_
      refine lv_iconst (v := 0) hx hb d_K_hash_26 (by decide) ?_
      refine lv_aload_n hx hb d_K_hash_27 rfl (lv_at hl 0 rfl) ?_
      obtain ⟨fs_, hm_, v5, hv_, hf⟩ := hf
      obtain ⟨ix_, hi_⟩ := m_ix hm_
      refine va_get (D := D) (ci := 0) (v := .int v5) (C := "CoinKeeper") (T := F_0) (N := 13) hx hb hts i_0 hown hK hP ix_ hi_ rfl 1 (by decide) (hts _ gw_501) (fun _ h9 => h9) hv_ d_K_hash_28 ?_
      clear hv_ hi_ hm_
      refine lv_aload_n hx hb d_K_hash_31 rfl (lv_at hl 0 rfl) ?_
      obtain ⟨fs_, hm_, r6, hv_, hf⟩ := hf
      obtain ⟨ix_, hi_⟩ := m_ix hm_
      refine va_get (D := D) (ci := 0) (v := va_rf r6) (C := "CoinKeeper") (T := F_0) (N := 13) hx hb hts i_0 hown hK hP ix_ hi_ rfl 2 (by decide) (hts _ gw_502) (fun _ h9 => h9) hv_ d_K_hash_32 ?_
      clear hv_ hi_ hm_
      obtain ⟨q7, rfl, hf⟩ := hf
      refine W.eq (g2 := F0 m 35 ls [.ref q7, .int v5, .int (0 : Int32), .ref q4, .ref q2]) rfl ?_
      refine lv_iconst (v := 0) hx hb d_K_hash_35 (by decide) ?_
      exact hf.elim
    · have hf := ifnP cx hf
      exact q_throw hlt hx hb hml hl.1 hlocks hown (by decide +kernel) (by decide +kernel) (ow_a hts hSt.2.1 hT) (hts _ gw_651) (hts _ gw_24) hex (Nat.le_of_ble_eq_true rfl) (Nat.le_of_ble_eq_true rfl) (by decide) (by decide) d_K_hash_10 d_K_hash_13 d_K_hash_14 d_K_hash_17
set_option maxRecDepth 100000 in
theorem tn_mK_tip_A (l : Launch) (hlt : ∀ e, l.admits e → e.platform.stackTraces = false) (D : va_G) (cy : Nat → ClassId) (ad : Nat → Nat) (mi : Nat) (a0 : Nat) (a1 : Int32) (M : Mm) (hf : xn_mK_tip_A cy ad M a0 a1) (sz : Nat) : MetT l ({ cls := "CoinKeeper", name := "tip", desc := "(I)I" } : Jvm.MethodName) (.code ({ cls := "CoinKeeper", name := "tip", desc := "(I)I" } : Jvm.MethodName) b_K_tip 2 (some .int) :: gw) rm_T (va_Pc [.ref a0, .int a1] (PrM D cy ad mi (mw M) sz)) "java/lang/IllegalArgumentException" := by
  refine q_metTM (by decide) rfl rfl (Nat.le_of_ble_eq_true rfl) (fun p e s m below meth c ls F hP hD hS hl => ?_) sz
  obtain ⟨⟨hx, hb, hr, hml, hown, hts, hlocks, hK, hA, hSt, hnm, hex⟩, hT, hMi⟩ := id F
  unfold xn_mK_tip_A at hf
  refine lv_iload_n hx hb d_K_tip_0 rfl (lv_at hl 1 rfl) ?_
  refine lv_if_lt (tgt := 10) hx hb d_K_tip_1 (by decide) (fun cx => ?_) (fun cx => ?_)
  · have hf := ifpP cx hf
    exact q_throw hlt hx hb hml hl.1 hlocks hown (by decide +kernel) (by decide +kernel) (ow_a hts hSt.2.1 hT) (hts _ gw_651) (hts _ gw_24) hex (Nat.le_of_ble_eq_true rfl) (Nat.le_of_ble_eq_true rfl) (by decide) (by decide) d_K_tip_10 d_K_tip_13 d_K_tip_14 d_K_tip_17
  · have hf := ifnP cx hf
    refine lv_iload_n hx hb d_K_tip_4 rfl (lv_at hl 1 rfl) ?_
    refine lv_bipush (v := 11) hx hb d_K_tip_5 (by decide) ?_
    refine lv_icmp_le (tgt := 18) hx hb d_K_tip_7 (by decide) (fun cx => ?_) (fun cx => ?_)
    · have hf := ifpP cx hf
      refine lv_iload_n hx hb d_K_tip_18 rfl (lv_at hl 1 rfl) ?_
      refine lv_bipush (v := 8) hx hb d_K_tip_19 (by decide) ?_
      refine lv_icmp_ge (tgt := 38) hx hb d_K_tip_21 (by decide) (fun cx => ?_) (fun cx => ?_)
      · have hf := ifpP cx hf
        refine lv_iload_n hx hb d_K_tip_38 rfl (lv_at hl 1 rfl) ?_
        refine lv_bipush (v := 8) hx hb d_K_tip_39 (by decide) ?_
        refine lv_icmp_ne (tgt := 52) hx hb d_K_tip_41 (by decide) (fun cx => ?_) (fun cx => ?_)
        · have hf := ifnP cx hf
          refine lv_iload_n hx hb d_K_tip_52 rfl (lv_at hl 1 rfl) ?_
          refine lv_bipush (v := 9) hx hb d_K_tip_53 (by decide) ?_
          refine lv_icmp_ne (tgt := 67) hx hb d_K_tip_55 (by decide) (fun cx => ?_) (fun cx => ?_)
          · have hf := ifnP cx hf
            refine lv_iload_n hx hb d_K_tip_67 rfl (lv_at hl 1 rfl) ?_
            refine lv_bipush (v := 10) hx hb d_K_tip_68 (by decide) ?_
            refine lv_icmp_ne (tgt := 83) hx hb d_K_tip_70 (by decide) (fun cx => ?_) (fun cx => ?_)
            · have hf := ifnP cx hf
              refine lv_aload_n hx hb d_K_tip_83 rfl (lv_at hl 0 rfl) ?_
              obtain ⟨fs_, hm_, r1, hv_, hf⟩ := hf
              obtain ⟨ix_, hi_⟩ := m_ix hm_
              refine va_get (D := D) (ci := 0) (v := va_rf r1) (C := "CoinKeeper") (T := F_0) (N := 13) hx hb hts i_0 hown hK hP ix_ hi_ rfl 10 (by decide) (hts _ gw_510) (fun _ h9 => h9) hv_ d_K_tip_84 ?_
              clear hv_ hi_ hm_
              obtain ⟨q2, rfl, hf⟩ := hf
              refine W.eq (g2 := F0 m 87 ls [.ref q2]) rfl ?_
              exact hf.elim
            · have hf := ifpP cx hf
              refine lv_aload_n hx hb d_K_tip_73 rfl (lv_at hl 0 rfl) ?_
              obtain ⟨fs_, hm_, r3, hv_, hf⟩ := hf
              obtain ⟨ix_, hi_⟩ := m_ix hm_
              refine va_get (D := D) (ci := 0) (v := va_rf r3) (C := "CoinKeeper") (T := F_0) (N := 13) hx hb hts i_0 hown hK hP ix_ hi_ rfl 10 (by decide) (hts _ gw_510) (fun _ h9 => h9) hv_ d_K_tip_74 ?_
              clear hv_ hi_ hm_
              obtain ⟨q4, rfl, hf⟩ := hf
              refine W.eq (g2 := F0 m 77 ls [.ref q4]) rfl ?_
              obtain ⟨fs_, hm_, v5, hv_, hf⟩ := hf
              obtain ⟨ix_, hi_⟩ := m_ix hm_
              refine va_get (D := D) (ci := 1) (v := .int v5) (C := "CoinKeeper$Block") (T := F_1) (N := 12) hx hb hts i_1 hown hK hP ix_ hi_ rfl 6 (by decide) (hts _ gw_405) (fun _ h9 => h9) hv_ d_K_tip_77 ?_
              clear hv_ hi_ hm_
              refine lv_goto (tgt := 90) hx hb d_K_tip_80 (by decide) ?_
              exact hf.elim
          · have hf := ifpP cx hf
            refine lv_aload_n hx hb d_K_tip_58 rfl (lv_at hl 0 rfl) ?_
            obtain ⟨fs_, hm_, r6, hv_, hf⟩ := hf
            obtain ⟨ix_, hi_⟩ := m_ix hm_
            refine va_get (D := D) (ci := 0) (v := va_rf r6) (C := "CoinKeeper") (T := F_0) (N := 13) hx hb hts i_0 hown hK hP ix_ hi_ rfl 10 (by decide) (hts _ gw_510) (fun _ h9 => h9) hv_ d_K_tip_59 ?_
            clear hv_ hi_ hm_
            obtain ⟨q7, rfl, hf⟩ := hf
            refine W.eq (g2 := F0 m 62 ls [.ref q7]) rfl ?_
            obtain ⟨fs_, hm_, v8, hv_, hf⟩ := hf
            obtain ⟨ix_, hi_⟩ := m_ix hm_
            refine va_get (D := D) (ci := 1) (v := .long v8) (C := "CoinKeeper$Block") (T := F_1) (N := 12) hx hb hts i_1 hown hK hP ix_ hi_ rfl 5 (by decide) (hts _ gw_403) (fun _ h9 => h9) hv_ d_K_tip_62 ?_
            clear hv_ hi_ hm_
            refine lv_l2i hx hb d_K_tip_65 rfl ?_
            exact hf.elim
        · have hf := ifpP cx hf
          refine lv_aload_n hx hb d_K_tip_44 rfl (lv_at hl 0 rfl) ?_
          obtain ⟨fs_, hm_, r9, hv_, hf⟩ := hf
          obtain ⟨ix_, hi_⟩ := m_ix hm_
          refine va_get (D := D) (ci := 0) (v := va_rf r9) (C := "CoinKeeper") (T := F_0) (N := 13) hx hb hts i_0 hown hK hP ix_ hi_ rfl 10 (by decide) (hts _ gw_510) (fun _ h9 => h9) hv_ d_K_tip_45 ?_
          clear hv_ hi_ hm_
          obtain ⟨q10, rfl, hf⟩ := hf
          refine W.eq (g2 := F0 m 48 ls [.ref q10]) rfl ?_
          obtain ⟨fs_, hm_, v11, hv_, hf⟩ := hf
          obtain ⟨ix_, hi_⟩ := m_ix hm_
          refine va_get (D := D) (ci := 1) (v := .int v11) (C := "CoinKeeper$Block") (T := F_1) (N := 12) hx hb hts i_1 hown hK hP ix_ hi_ rfl 4 (by decide) (hts _ gw_401) (fun _ h9 => h9) hv_ d_K_tip_48 ?_
          clear hv_ hi_ hm_
          exact hf.elim
      · have hf := ifnP cx hf
        refine lv_aload_n hx hb d_K_tip_24 rfl (lv_at hl 0 rfl) ?_
        obtain ⟨fs_, hm_, r12, hv_, hf⟩ := hf
        obtain ⟨ix_, hi_⟩ := m_ix hm_
        refine va_get (D := D) (ci := 0) (v := va_rf r12) (C := "CoinKeeper") (T := F_0) (N := 13) hx hb hts i_0 hown hK hP ix_ hi_ rfl 10 (by decide) (hts _ gw_510) (fun _ h9 => h9) hv_ d_K_tip_25 ?_
        clear hv_ hi_ hm_
        obtain ⟨q13, rfl, hf⟩ := hf
        refine W.eq (g2 := F0 m 28 ls [.ref q13]) rfl ?_
        obtain ⟨fs_, hm_, r14, hv_, hf⟩ := hf
        obtain ⟨ix_, hi_⟩ := m_ix hm_
        refine va_get (D := D) (ci := 1) (v := va_rf r14) (C := "CoinKeeper$Block") (T := F_1) (N := 12) hx hb hts i_1 hown hK hP ix_ hi_ rfl 2 (by decide) (hts _ gw_396) (fun _ h9 => h9) hv_ d_K_tip_28 ?_
        clear hv_ hi_ hm_
        obtain ⟨q15, rfl, hf⟩ := hf
        refine W.eq (g2 := F0 m 31 ls [.ref q15]) rfl ?_
        refine lv_iconst (v := 4) hx hb d_K_tip_31 (by decide) ?_
        refine lv_iload_n hx hb d_K_tip_32 rfl (lv_at hl 1 rfl) ?_
        refine lv_imul hx hb d_K_tip_33 ?_
        exact hf.elim
    · have hf := ifnP cx hf
      exact q_throw hlt hx hb hml hl.1 hlocks hown (by decide +kernel) (by decide +kernel) (ow_a hts hSt.2.1 hT) (hts _ gw_651) (hts _ gw_24) hex (Nat.le_of_ble_eq_true rfl) (Nat.le_of_ble_eq_true rfl) (by decide) (by decide) d_K_tip_10 d_K_tip_13 d_K_tip_14 d_K_tip_17
set_option maxRecDepth 100000 in
theorem tn_mK_unspent_A (l : Launch) (hlt : ∀ e, l.admits e → e.platform.stackTraces = false) (D : va_G) (cy : Nat → ClassId) (ad : Nat → Nat) (mi : Nat) (a0 : Nat) (a1 : Int32) (M : Mm) (hf : xn_mK_unspent_A cy ad M a0 a1) (sz : Nat) : MetT l ({ cls := "CoinKeeper", name := "unspent", desc := "(I)J" } : Jvm.MethodName) (.code ({ cls := "CoinKeeper", name := "unspent", desc := "(I)J" } : Jvm.MethodName) b_K_unspent 3 (some .long) :: gw) rm_T (va_Pc [.ref a0, .int a1] (PrM D cy ad mi (mw M) sz)) "java/lang/IllegalArgumentException" := by
  refine q_metTM (by decide) rfl rfl (Nat.le_of_ble_eq_true rfl) (fun p e s m below meth c ls F hP hD hS hl => ?_) sz
  obtain ⟨⟨hx, hb, hr, hml, hown, hts, hlocks, hK, hA, hSt, hnm, hex⟩, hT, hMi⟩ := id F
  unfold xn_mK_unspent_A at hf
  refine lv_aload_n hx hb d_K_unspent_0 rfl (lv_at hl 0 rfl) ?_
  obtain ⟨fs_, hm_, v1, hv_, hf⟩ := hf
  obtain ⟨ix_, hi_⟩ := m_ix hm_
  refine va_get (D := D) (ci := 0) (v := .int v1) (C := "CoinKeeper") (T := F_0) (N := 13) hx hb hts i_0 hown hK hP ix_ hi_ rfl 1 (by decide) (hts _ gw_501) (fun _ h9 => h9) hv_ d_K_unspent_1 ?_
  clear hv_ hi_ hm_
  refine lv_bipush (v := 32) hx hb d_K_unspent_4 (by decide) ?_
  refine lv_icmp_eq (tgt := 17) hx hb d_K_unspent_6 (by decide) (fun cx => ?_) (fun cx => ?_)
  · have hf := ifpP cx hf
    refine lv_aload_n hx hb d_K_unspent_17 rfl (lv_at hl 0 rfl) ?_
    obtain ⟨fs_, hm_, r2, hv_, hf⟩ := hf
    obtain ⟨ix_, hi_⟩ := m_ix hm_
    refine va_get (D := D) (ci := 0) (v := va_rf r2) (C := "CoinKeeper") (T := F_0) (N := 13) hx hb hts i_0 hown hK hP ix_ hi_ rfl 7 (by decide) (hts _ gw_507) (fun _ h9 => h9) hv_ d_K_unspent_18 ?_
    clear hv_ hi_ hm_
    obtain ⟨q3, rfl, hf⟩ := hf
    refine W.eq (g2 := F0 m 21 ls [.ref q3]) rfl ?_
    refine lv_aload_n hx hb d_K_unspent_21 rfl (lv_at hl 0 rfl) ?_
    obtain ⟨fs_, hm_, r4, hv_, hf⟩ := hf
    obtain ⟨ix_, hi_⟩ := m_ix hm_
    refine va_get (D := D) (ci := 0) (v := va_rf r4) (C := "CoinKeeper") (T := F_0) (N := 13) hx hb hts i_0 hown hK hP ix_ hi_ rfl 0 (by decide) (hts _ gw_500) (fun _ h9 => h9) hv_ d_K_unspent_22 ?_
    clear hv_ hi_ hm_
    obtain ⟨q5, rfl, hf⟩ := hf
    refine W.eq (g2 := F0 m 25 ls [.ref q5, .ref q3]) rfl ?_
    refine lv_iconst (v := 0) hx hb d_K_unspent_25 (by decide) ?_
    refine lv_iload_n hx hb d_K_unspent_26 rfl (lv_at hl 1 rfl) ?_
    exact hf.elim
  · have hf := ifnP cx hf
    exact q_throw hlt hx hb hml hl.1 hlocks hown (by decide +kernel) (by decide +kernel) (ow_a hts hSt.2.1 hT) (hts _ gw_651) (hts _ gw_24) hex (Nat.le_of_ble_eq_true rfl) (Nat.le_of_ble_eq_true rfl) (by decide) (by decide) d_K_unspent_9 d_K_unspent_12 d_K_unspent_13 d_K_unspent_16
set_option maxRecDepth 100000 in
theorem tn_mK_count_A (l : Launch) (hlt : ∀ e, l.admits e → e.platform.stackTraces = false) (D : va_G) (cy : Nat → ClassId) (ad : Nat → Nat) (mi : Nat) (a0 : Nat) (a1 : Int32) (M : Mm) (hf : xn_mK_count_A cy ad M a0 a1) (sz : Nat) : MetT l ({ cls := "CoinKeeper", name := "count", desc := "(I)J" } : Jvm.MethodName) (.code ({ cls := "CoinKeeper", name := "count", desc := "(I)J" } : Jvm.MethodName) b_K_count 2 (some .long) :: gw) rm_T (va_Pc [.ref a0, .int a1] (PrM D cy ad mi (mw M) sz)) "java/lang/IllegalArgumentException" := by
  refine q_metTM (by decide) rfl rfl (Nat.le_of_ble_eq_true rfl) (fun p e s m below meth c ls F hP hD hS hl => ?_) sz
  obtain ⟨⟨hx, hb, hr, hml, hown, hts, hlocks, hK, hA, hSt, hnm, hex⟩, hT, hMi⟩ := id F
  unfold xn_mK_count_A at hf
  refine lv_iload_n hx hb d_K_count_0 rfl (lv_at hl 1 rfl) ?_
  refine lv_if_lt (tgt := 9) hx hb d_K_count_1 (by decide) (fun cx => ?_) (fun cx => ?_)
  · have hf := ifpP cx hf
    exact q_throw hlt hx hb hml hl.1 hlocks hown (by decide +kernel) (by decide +kernel) (ow_a hts hSt.2.1 hT) (hts _ gw_651) (hts _ gw_24) hex (Nat.le_of_ble_eq_true rfl) (Nat.le_of_ble_eq_true rfl) (by decide) (by decide) d_K_count_9 d_K_count_12 d_K_count_13 d_K_count_16
  · have hf := ifnP cx hf
    refine lv_iload_n hx hb d_K_count_4 rfl (lv_at hl 1 rfl) ?_
    refine lv_iconst (v := 5) hx hb d_K_count_5 (by decide) ?_
    refine lv_icmp_le (tgt := 17) hx hb d_K_count_6 (by decide) (fun cx => ?_) (fun cx => ?_)
    · have hf := ifpP cx hf
      refine lv_iload_n hx hb d_K_count_17 rfl (lv_at hl 1 rfl) ?_
      refine lv_if_ne (tgt := 32) hx hb d_K_count_18 (by decide) (fun cx => ?_) (fun cx => ?_)
      · have hf := ifnP cx hf
        refine lv_iload_n hx hb d_K_count_32 rfl (lv_at hl 1 rfl) ?_
        refine lv_iconst (v := 1) hx hb d_K_count_33 (by decide) ?_
        refine lv_icmp_ne (tgt := 43) hx hb d_K_count_34 (by decide) (fun cx => ?_) (fun cx => ?_)
        · have hf := ifnP cx hf
          refine lv_iload_n hx hb d_K_count_43 rfl (lv_at hl 1 rfl) ?_
          refine lv_iconst (v := 2) hx hb d_K_count_44 (by decide) ?_
          refine lv_icmp_ne (tgt := 57) hx hb d_K_count_45 (by decide) (fun cx => ?_) (fun cx => ?_)
          · have hf := ifnP cx hf
            refine lv_iload_n hx hb d_K_count_57 rfl (lv_at hl 1 rfl) ?_
            refine lv_iconst (v := 3) hx hb d_K_count_58 (by decide) ?_
            refine lv_icmp_ne (tgt := 70) hx hb d_K_count_59 (by decide) (fun cx => ?_) (fun cx => ?_)
            · have hf := ifnP cx hf
              refine lv_iload_n hx hb d_K_count_70 rfl (lv_at hl 1 rfl) ?_
              refine lv_iconst (v := 4) hx hb d_K_count_71 (by decide) ?_
              refine lv_icmp_ne (tgt := 85) hx hb d_K_count_72 (by decide) (fun cx => ?_) (fun cx => ?_)
              · have hf := ifnP cx hf
                refine lv_aload_n hx hb d_K_count_85 rfl (lv_at hl 0 rfl) ?_
                obtain ⟨fs_, hm_, v1, hv_, hf⟩ := hf
                obtain ⟨ix_, hi_⟩ := m_ix hm_
                refine va_get (D := D) (ci := 0) (v := .int v1) (C := "CoinKeeper") (T := F_0) (N := 13) hx hb hts i_0 hown hK hP ix_ hi_ rfl 1 (by decide) (hts _ gw_501) (fun _ h9 => h9) hv_ d_K_count_86 ?_
                clear hv_ hi_ hm_
                refine lv_i2l hx hb d_K_count_89 rfl ?_
                exact hf.elim
              · have hf := ifpP cx hf
                refine lv_aload_n hx hb d_K_count_75 rfl (lv_at hl 0 rfl) ?_
                obtain ⟨fs_, hm_, r2, hv_, hf⟩ := hf
                obtain ⟨ix_, hi_⟩ := m_ix hm_
                refine va_get (D := D) (ci := 0) (v := va_rf r2) (C := "CoinKeeper") (T := F_0) (N := 13) hx hb hts i_0 hown hK hP ix_ hi_ rfl 10 (by decide) (hts _ gw_510) (fun _ h9 => h9) hv_ d_K_count_76 ?_
                clear hv_ hi_ hm_
                obtain ⟨q3, rfl, hf⟩ := hf
                refine W.eq (g2 := F0 m 79 ls [.ref q3]) rfl ?_
                obtain ⟨fs_, hm_, v4, hv_, hf⟩ := hf
                obtain ⟨ix_, hi_⟩ := m_ix hm_
                refine va_get (D := D) (ci := 1) (v := .long v4) (C := "CoinKeeper$Block") (T := F_1) (N := 12) hx hb hts i_1 hown hK hP ix_ hi_ rfl 7 (by decide) (hts _ gw_407) (fun _ h9 => h9) hv_ d_K_count_79 ?_
                clear hv_ hi_ hm_
                refine lv_goto (tgt := 90) hx hb d_K_count_82 (by decide) ?_
                exact hf.elim
            · have hf := ifpP cx hf
              refine lv_aload_n hx hb d_K_count_62 rfl (lv_at hl 0 rfl) ?_
              obtain ⟨fs_, hm_, r5, hv_, hf⟩ := hf
              obtain ⟨ix_, hi_⟩ := m_ix hm_
              refine va_get (D := D) (ci := 0) (v := va_rf r5) (C := "CoinKeeper") (T := F_0) (N := 13) hx hb hts i_0 hown hK hP ix_ hi_ rfl 7 (by decide) (hts _ gw_507) (fun _ h9 => h9) hv_ d_K_count_63 ?_
              clear hv_ hi_ hm_
              obtain ⟨q6, rfl, hf⟩ := hf
              refine W.eq (g2 := F0 m 66 ls [.ref q6]) rfl ?_
              exact hf.elim
          · have hf := ifpP cx hf
            refine lv_aload_n hx hb d_K_count_48 rfl (lv_at hl 0 rfl) ?_
            obtain ⟨fs_, hm_, r7, hv_, hf⟩ := hf
            obtain ⟨ix_, hi_⟩ := m_ix hm_
            refine va_get (D := D) (ci := 0) (v := va_rf r7) (C := "CoinKeeper") (T := F_0) (N := 13) hx hb hts i_0 hown hK hP ix_ hi_ rfl 7 (by decide) (hts _ gw_507) (fun _ h9 => h9) hv_ d_K_count_49 ?_
            clear hv_ hi_ hm_
            obtain ⟨q8, rfl, hf⟩ := hf
            refine W.eq (g2 := F0 m 52 ls [.ref q8]) rfl ?_
            exact hf.elim
        · have hf := ifpP cx hf
          refine lv_aload_n hx hb d_K_count_37 rfl (lv_at hl 0 rfl) ?_
          exact hf.elim
      · have hf := ifpP cx hf
        refine lv_aload_n hx hb d_K_count_21 rfl (lv_at hl 0 rfl) ?_
        obtain ⟨fs_, hm_, r9, hv_, hf⟩ := hf
        obtain ⟨ix_, hi_⟩ := m_ix hm_
        refine va_get (D := D) (ci := 0) (v := va_rf r9) (C := "CoinKeeper") (T := F_0) (N := 13) hx hb hts i_0 hown hK hP ix_ hi_ rfl 8 (by decide) (hts _ gw_508) (fun _ h9 => h9) hv_ d_K_count_22 ?_
        clear hv_ hi_ hm_
        obtain ⟨q10, rfl, hf⟩ := hf
        refine W.eq (g2 := F0 m 25 ls [.ref q10]) rfl ?_
        exact hf.elim
    · have hf := ifnP cx hf
      exact q_throw hlt hx hb hml hl.1 hlocks hown (by decide +kernel) (by decide +kernel) (ow_a hts hSt.2.1 hT) (hts _ gw_651) (hts _ gw_24) hex (Nat.le_of_ble_eq_true rfl) (Nat.le_of_ble_eq_true rfl) (by decide) (by decide) d_K_count_9 d_K_count_12 d_K_count_13 d_K_count_16
set_option maxRecDepth 100000 in
theorem tn_mK_signed_A (l : Launch) (hlt : ∀ e, l.admits e → e.platform.stackTraces = false) (D : va_G) (cy : Nat → ClassId) (ad : Nat → Nat) (mi : Nat) (a0 : Nat) (a1 : Int32) (M : Mm) (hf : xn_mK_signed_A cy ad M a0 a1) (sz : Nat) : MetT l ({ cls := "CoinKeeper", name := "signed", desc := "(I)Z" } : Jvm.MethodName) (.code ({ cls := "CoinKeeper", name := "signed", desc := "(I)Z" } : Jvm.MethodName) b_K_signed 2 (some .boolean) :: gw) rm_T (va_Pc [.ref a0, .int a1] (PrM D cy ad mi (mw M) sz)) "java/lang/IllegalArgumentException" := by
  refine q_metTM (by decide) rfl rfl (Nat.le_of_ble_eq_true rfl) (fun p e s m below meth c ls F hP hD hS hl => ?_) sz
  obtain ⟨⟨hx, hb, hr, hml, hown, hts, hlocks, hK, hA, hSt, hnm, hex⟩, hT, hMi⟩ := id F
  unfold xn_mK_signed_A at hf
  refine lv_iload_n hx hb d_K_signed_0 rfl (lv_at hl 1 rfl) ?_
  refine lv_if_lt (tgt := 37) hx hb d_K_signed_1 (by decide) (fun cx => ?_) (fun cx => ?_)
  · have hf := ifpP cx hf
    exact q_throw hlt hx hb hml hl.1 hlocks hown (by decide +kernel) (by decide +kernel) (ow_a hts hSt.2.1 hT) (hts _ gw_651) (hts _ gw_24) hex (Nat.le_of_ble_eq_true rfl) (Nat.le_of_ble_eq_true rfl) (by decide) (by decide) d_K_signed_37 d_K_signed_40 d_K_signed_41 d_K_signed_44
  · have hf := ifnP cx hf
    refine lv_iload_n hx hb d_K_signed_4 rfl (lv_at hl 1 rfl) ?_
    refine lv_bipush (v := 100) hx hb d_K_signed_5 (by decide) ?_
    refine lv_icmp_gt (tgt := 37) hx hb d_K_signed_7 (by decide) (fun cx => ?_) (fun cx => ?_)
    · have hf := ifpP cx hf
      exact q_throw hlt hx hb hml hl.1 hlocks hown (by decide +kernel) (by decide +kernel) (ow_a hts hSt.2.1 hT) (hts _ gw_651) (hts _ gw_24) hex (Nat.le_of_ble_eq_true rfl) (Nat.le_of_ble_eq_true rfl) (by decide) (by decide) d_K_signed_37 d_K_signed_40 d_K_signed_41 d_K_signed_44
    · have hf := ifnP cx hf
      refine lv_aload_n hx hb d_K_signed_10 rfl (lv_at hl 0 rfl) ?_
      obtain ⟨fs_, hm_, v1, hv_, hf⟩ := hf
      obtain ⟨ix_, hi_⟩ := m_ix hm_
      refine va_get (D := D) (ci := 0) (v := .int v1) (C := "CoinKeeper") (T := F_0) (N := 13) hx hb hts i_0 hown hK hP ix_ hi_ rfl 1 (by decide) (hts _ gw_501) (fun _ h9 => h9) hv_ d_K_signed_11 ?_
      clear hv_ hi_ hm_
      refine lv_bipush (v := 32) hx hb d_K_signed_14 (by decide) ?_
      refine lv_iload_n hx hb d_K_signed_16 rfl (lv_at hl 1 rfl) ?_
      refine lv_iadd hx hb d_K_signed_17 ?_
      refine lv_topi (fun v2 ev => ?_)
      have hf := bnQ ev hf
      clear ev
      refine lv_iconst (v := 1) hx hb d_K_signed_18 (by decide) ?_
      refine lv_iadd hx hb d_K_signed_19 ?_
      refine lv_icmp_lt (tgt := 37) hx hb d_K_signed_20 (by decide) (fun cx => ?_) (fun cx => ?_)
      · have hf := ifpP cx hf
        exact q_throw hlt hx hb hml hl.1 hlocks hown (by decide +kernel) (by decide +kernel) (ow_a hts hSt.2.1 hT) (hts _ gw_651) (hts _ gw_24) hex (Nat.le_of_ble_eq_true rfl) (Nat.le_of_ble_eq_true rfl) (by decide) (by decide) d_K_signed_37 d_K_signed_40 d_K_signed_41 d_K_signed_44
      · have hf := ifnP cx hf
        refine lv_aload_n hx hb d_K_signed_23 rfl (lv_at hl 0 rfl) ?_
        obtain ⟨fs_, hm_, v3, hv_, hf⟩ := hf
        obtain ⟨ix_, hi_⟩ := m_ix hm_
        refine va_get (D := D) (ci := 0) (v := .int v3) (C := "CoinKeeper") (T := F_0) (N := 13) hx hb hts i_0 hown hK hP ix_ hi_ rfl 1 (by decide) (hts _ gw_501) (fun _ h9 => h9) hv_ d_K_signed_24 ?_
        clear hv_ hi_ hm_
        refine lv_bipush (v := 32) hx hb d_K_signed_27 (by decide) ?_
        refine lv_iload_n hx hb d_K_signed_29 rfl (lv_at hl 1 rfl) ?_
        refine lv_iadd hx hb d_K_signed_30 ?_
        refine lv_topi (fun v4 ev => ?_)
        have hf := bnQ ev hf
        clear ev
        refine lv_bipush (v := 80) hx hb d_K_signed_31 (by decide) ?_
        refine lv_iadd hx hb d_K_signed_33 ?_
        refine lv_icmp_le (tgt := 45) hx hb d_K_signed_34 (by decide) (fun cx => ?_) (fun cx => ?_)
        · have hf := ifpP cx hf
          refine lv_aload_n hx hb d_K_signed_45 rfl (lv_at hl 0 rfl) ?_
          obtain ⟨fs_, hm_, r5, hv_, hf⟩ := hf
          obtain ⟨ix_, hi_⟩ := m_ix hm_
          refine va_get (D := D) (ci := 0) (v := va_rf r5) (C := "CoinKeeper") (T := F_0) (N := 13) hx hb hts i_0 hown hK hP ix_ hi_ rfl 4 (by decide) (hts _ gw_504) (fun _ h9 => h9) hv_ d_K_signed_46 ?_
          clear hv_ hi_ hm_
          obtain ⟨q6, rfl, hf⟩ := hf
          refine W.eq (g2 := F0 m 49 ls [.ref q6]) rfl ?_
          refine lv_aload_n hx hb d_K_signed_49 rfl (lv_at hl 0 rfl) ?_
          obtain ⟨fs_, hm_, r7, hv_, hf⟩ := hf
          obtain ⟨ix_, hi_⟩ := m_ix hm_
          refine va_get (D := D) (ci := 0) (v := va_rf r7) (C := "CoinKeeper") (T := F_0) (N := 13) hx hb hts i_0 hown hK hP ix_ hi_ rfl 0 (by decide) (hts _ gw_500) (fun _ h9 => h9) hv_ d_K_signed_50 ?_
          clear hv_ hi_ hm_
          obtain ⟨q8, rfl, hf⟩ := hf
          refine W.eq (g2 := F0 m 53 ls [.ref q8, .ref q6]) rfl ?_
          refine lv_iconst (v := 0) hx hb d_K_signed_53 (by decide) ?_
          refine lv_bipush (v := 32) hx hb d_K_signed_54 (by decide) ?_
          refine lv_iload_n hx hb d_K_signed_56 rfl (lv_at hl 1 rfl) ?_
          refine lv_bipush (v := 32) hx hb d_K_signed_57 (by decide) ?_
          refine lv_iload_n hx hb d_K_signed_59 rfl (lv_at hl 1 rfl) ?_
          refine lv_iadd hx hb d_K_signed_60 ?_
          refine lv_topi (fun v9 ev => ?_)
          have hf := bnQ ev hf
          clear ev
          refine lv_aload_n hx hb d_K_signed_61 rfl (lv_at hl 0 rfl) ?_
          obtain ⟨fs_, hm_, v10, hv_, hf⟩ := hf
          obtain ⟨ix_, hi_⟩ := m_ix hm_
          refine va_get (D := D) (ci := 0) (v := .int v10) (C := "CoinKeeper") (T := F_0) (N := 13) hx hb hts i_0 hown hK hP ix_ hi_ rfl 1 (by decide) (hts _ gw_501) (fun _ h9 => h9) hv_ d_K_signed_62 ?_
          clear hv_ hi_ hm_
          refine lv_bipush (v := 32) hx hb d_K_signed_65 (by decide) ?_
          refine lv_isub hx hb d_K_signed_67 ?_
          refine lv_topi (fun v11 ev => ?_)
          have hf := bnQ ev hf
          clear ev
          refine lv_iload_n hx hb d_K_signed_68 rfl (lv_at hl 1 rfl) ?_
          refine lv_isub hx hb d_K_signed_69 ?_
          exact hf.elim
        · have hf := ifnP cx hf
          exact q_throw hlt hx hb hml hl.1 hlocks hown (by decide +kernel) (by decide +kernel) (ow_a hts hSt.2.1 hT) (hts _ gw_651) (hts _ gw_24) hex (Nat.le_of_ble_eq_true rfl) (Nat.le_of_ble_eq_true rfl) (by decide) (by decide) d_K_signed_37 d_K_signed_40 d_K_signed_41 d_K_signed_44
