set_option maxHeartbeats 8000000 in
set_option maxRecDepth 100000 in
theorem wv_mlaw_23 {p : Program} {l : Launch} {e : Env} {s : State} {m : MethodId} {below : List Frame} {meth : Method} {c : Code} {D : va_G} {cy : Nat → ClassId} {A : Nat → Prop} {ad : Nat → Nat} {mi b L : Nat} {xs : Nat → Int32} {fu : Nat} {k_23 : Nat → Nat → Mm → Nat → Nat → Nat → Int32 → Prop} (F : FxL p l s m meth c D cy ad mi A b L xs) (hk_23 : Iw_mlaw_23 p l e s m below meth c D cy A ad mi b L xs k_23) : Iw_mlaw_23 p l e s m below meth c D cy A ad mi b L xs (xv_mlaw_23 fu cy ad mi L xs k_23) := by
  obtain ⟨hlt, hx, hb, hr, hml, hown, hts, hlocks, hK, hA, hSt, hT, hMi, hX, hbl, hbA, hNC, hfo⟩ := id F
  intro κ σ M x1 x2 x3 x4 hf hkc hks H locs ls hP hD hS hl
  unfold xv_mlaw_23 at hf
  refine lv_iload hx hb d_law_23 (lv_at hl 4 rfl) ?_
  refine lv_aload_n hx hb d_law_25 rfl (lv_at hl 0 rfl) ?_
  refine va_slen hx hb hX hbl hbA hS d_law_26 ?_
  refine lv_topi (fun v1 ev => ?_)
  have hf := bnQ ev hf
  clear ev
  refine lv_bipush (v := 6) hx hb d_law_27 (by decide) ?_
  refine lv_isub hx hb d_law_29 ?_
  refine lv_icmp_gt (tgt := 668) hx hb d_law_30 (by decide) (fun cx => ?_) (fun cx => ?_)
  · have hf := ifpP cx hf
    refine lv_iconst (v := 1) hx hb d_law_668 (by decide) ?_
    refine va_forget (hfo _ _ hS) ?_
    exact W.widen hkc hks (lw_ret hx hb hr hlocks d_law_669)
  · have hf := ifnP cx hf
    refine lv_aload_n hx hb d_law_33 rfl (lv_at hl 0 rfl) ?_
    refine lv_iload hx hb d_law_34 (lv_at hl 4 rfl) ?_
    obtain ⟨hg, hf⟩ := hf
    refine va_sld hx hb hX hbl hbA hS (inb_in hg) d_law_36 ?_
    refine lv_topi (fun v2 ev => ?_)
    have hf := bnQ ev hf
    clear ev
    refine lv_bipush (v := 15) hx hb d_law_37 (by decide) ?_
    refine lv_iand hx hb d_law_39 ?_
    refine lv_topi (fun v3 ev => ?_)
    have hf := bnQ ev hf
    clear ev
    by_cases cx : v3 = 0
    · have hf := ifpP cx hf
      refine lv_tableIn (tgt := 96) (off := 56) hx hb d_law_40 (by rw [cx]; decide) (by rw [cx]; decide) (by rw [cx]; decide +kernel) (by decide) ?_
      exact wb_0 (fu := fu) F hk_23 κ σ M x1 x2 x3 x4 hf hkc hks _ _ _ hP hD hS hl
    · have hf := ifnP cx hf
      have cn_0 := lv_neT (a := 0) cx (by decide)
      clear cx
      by_cases cx : v3 = 1
      · have hf := ifpP cx hf
        refine lv_tableIn (tgt := 200) (off := 160) hx hb d_law_40 (by rw [cx]; decide) (by rw [cx]; decide) (by rw [cx]; decide +kernel) (by decide) ?_
        exact wb_1 (fu := fu) F hk_23 κ σ M x1 x2 x3 x4 hf hkc hks _ _ _ hP hD hS hl
      · have hf := ifnP cx hf
        have cn_1 := lv_neT (a := 1) cx (by decide)
        clear cx
        by_cases cx : v3 = 2
        · have hf := ifpP cx hf
          refine lv_tableIn (tgt := 256) (off := 216) hx hb d_law_40 (by rw [cx]; decide) (by rw [cx]; decide) (by rw [cx]; decide +kernel) (by decide) ?_
          exact wb_2 (fu := fu) F hk_23 κ σ M x1 x2 x3 x4 hf hkc hks _ _ _ hP hD hS hl
        · have hf := ifnP cx hf
          have cn_2 := lv_neT (a := 2) cx (by decide)
          clear cx
          by_cases cx : v3 = 3
          · have hf := ifpP cx hf
            refine lv_tableIn (tgt := 300) (off := 260) hx hb d_law_40 (by rw [cx]; decide) (by rw [cx]; decide) (by rw [cx]; decide +kernel) (by decide) ?_
            exact wb_3 (fu := fu) F hk_23 κ σ M x1 x2 x3 x4 hf hkc hks _ _ _ hP hD hS hl
          · have hf := ifnP cx hf
            have cn_3 := lv_neT (a := 3) cx (by decide)
            clear cx
            by_cases cx : v3 = 4
            · have hf := ifpP cx hf
              refine lv_tableIn (tgt := 363) (off := 323) hx hb d_law_40 (by rw [cx]; decide) (by rw [cx]; decide) (by rw [cx]; decide +kernel) (by decide) ?_
              exact wb_4 (fu := fu) F hk_23 κ σ M x1 x2 x3 x4 hf hkc hks _ _ _ hP hD hS hl
            · have hf := ifnP cx hf
              have cn_4 := lv_neT (a := 4) cx (by decide)
              clear cx
              by_cases cx : v3 = 5
              · have hf := ifpP cx hf
                refine lv_tableIn (tgt := 419) (off := 379) hx hb d_law_40 (by rw [cx]; decide) (by rw [cx]; decide) (by rw [cx]; decide +kernel) (by decide) ?_
                exact wb_5 (fu := fu) F hk_23 κ σ M x1 x2 x3 x4 hf hkc hks _ _ _ hP hD hS hl
              · have hf := ifnP cx hf
                have cn_5 := lv_neT (a := 5) cx (by decide)
                clear cx
                by_cases cx : v3 = 6
                · have hf := ifpP cx hf
                  refine lv_tableIn (tgt := 475) (off := 435) hx hb d_law_40 (by rw [cx]; decide) (by rw [cx]; decide) (by rw [cx]; decide +kernel) (by decide) ?_
                  exact wb_6 (fu := fu) F hk_23 κ σ M x1 x2 x3 x4 hf hkc hks _ _ _ hP hD hS hl
                · have hf := ifnP cx hf
                  have cn_6 := lv_neT (a := 6) cx (by decide)
                  clear cx
                  by_cases cx : v3 = 7
                  · have hf := ifpP cx hf
                    refine lv_tableIn (tgt := 530) (off := 490) hx hb d_law_40 (by rw [cx]; decide) (by rw [cx]; decide) (by rw [cx]; decide +kernel) (by decide) ?_
                    exact wb_7 (fu := fu) F hk_23 κ σ M x1 x2 x3 x4 hf hkc hks _ _ _ hP hD hS hl
                  · have hf := ifnP cx hf
                    have cn_7 := lv_neT (a := 7) cx (by decide)
                    clear cx
                    by_cases cx : v3 = 8
                    · have hf := ifpP cx hf
                      refine lv_tableIn (tgt := 585) (off := 545) hx hb d_law_40 (by rw [cx]; decide) (by rw [cx]; decide) (by rw [cx]; decide +kernel) (by decide) ?_
                      exact wb_8 (fu := fu) F hk_23 κ σ M x1 x2 x3 x4 hf hkc hks _ _ _ hP hD hS hl
                    · have hf := ifnP cx hf
                      have cn_8 := lv_neT (a := 8) cx (by decide)
                      clear cx
                      by_cases cx : v3 = 9
                      · have hf := ifpP cx hf
                        refine lv_tableIn (tgt := 599) (off := 559) hx hb d_law_40 (by rw [cx]; decide) (by rw [cx]; decide) (by rw [cx]; decide +kernel) (by decide) ?_
                        exact wb_9 (fu := fu) F hk_23 κ σ M x1 x2 x3 x4 hf hkc hks _ _ _ hP hD hS hl
                      · have hf := ifnP cx hf
                        have cn_9 := lv_neT (a := 9) cx (by decide)
                        clear cx
                        refine lv_tableOut (tgt := 662) hx hb d_law_40 (by omega) (by decide) ?_
                        clear cn_0 cn_1 cn_2 cn_3 cn_4 cn_5 cn_6 cn_7 cn_8 cn_9
                        exact wv_mlaw_662 (fu := fu) F hk_23 _ _ _ _ _ _ _ hf hkc hks _ _ _ hP hD hS (lv_sub hl [0, 1, 2, 3, 4] rfl)
theorem ww_mlaw_23 {p : Program} {l : Launch} {e : Env} {s : State} {m : MethodId} {below : List Frame} {meth : Method} {c : Code} {D : va_G} {cy : Nat → ClassId} {A : Nat → Prop} {ad : Nat → Nat} {mi b L : Nat} {xs : Nat → Int32} {fu : Nat} (F : FxL p l s m meth c D cy ad mi A b L xs) : ∀ n : Nat, Iw_mlaw_23 p l e s m below meth c D cy A ad mi b L xs (xw_mlaw_23 fu cy ad mi L xs n)
  | 0 => fun _ _ _ _ _ _ _ hf => False.elim hf
  | n + 1 => wv_mlaw_23 F (ww_mlaw_23 F n)

