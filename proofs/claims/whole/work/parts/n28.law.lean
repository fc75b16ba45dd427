-- the law up to its loop
theorem rgm {α : Type} (l t : List α) : (List.range l.length).map (fun i => (l ++ t)[i]?) = l.map some := by
  apply List.ext_getElem
  · simp
  · intro i h1 h2
    simp only [List.length_map, List.length_range] at h1
    simp [List.getElem?_append_left h1, List.getElem?_eq_getElem h1]
theorem hds_0 : ({ cls := "CoinKeeper", name := "<init>", desc := "()V" } : Jvm.MethodName).cls ≠ "java/lang/invoke/MethodHandle" ∧ ({ cls := "CoinKeeper", name := "<init>", desc := "()V" } : Jvm.MethodName).cls ≠ "java/lang/invoke/VarHandle" ∧ (parseMethodDescriptor ({ cls := "CoinKeeper", name := "<init>", desc := "()V" } : Jvm.MethodName).desc).map (fun d => d.parameters.length) = some 0 := by decide +kernel
theorem hds_1 : ({ cls := "CoinKeeperModel", name := "<init>", desc := "()V" } : Jvm.MethodName).cls ≠ "java/lang/invoke/MethodHandle" ∧ ({ cls := "CoinKeeperModel", name := "<init>", desc := "()V" } : Jvm.MethodName).cls ≠ "java/lang/invoke/VarHandle" ∧ (parseMethodDescriptor ({ cls := "CoinKeeperModel", name := "<init>", desc := "()V" } : Jvm.MethodName).desc).map (fun d => d.parameters.length) = some 0 := by decide +kernel
set_option maxHeartbeats 16000000 in
set_option maxRecDepth 100000 in
theorem we_law0 {p : Program} {l : Launch} {e : Env} {s : State} {m : MethodId} {below : List Frame} {meth : Method} {c : Code} {D : va_G} {cy : Nat → ClassId} {A : Nat → Prop} {ad : Nat → Nat} {mi b L fu : Nat} {xs : Nat → Int32} {ls : Array Slot} {r1 : TK} {r2 : TM} (F : FxL p l s m meth c D cy ad mi A b L xs) (hl : lv_has ls 8 [(0, .ref b)]) (hk : x_K_init fu 0 0 0 = some r1) (hm : x_M_init fu (0 : Int32) (0 : Int32) (0 : Int32) (0 : Int32) (0 : Int32) (0 : Int32) (0 : Int32) (0 : Int32) (0 : Int32) (0 : Int32) (0 : Int32) (0 : Int32) (0 : Int32) (0 : Int32) (0 : Int32) (0 : Int32) (0 : Int32) (0 : Int32) (0 : Int32) (0 : Int32) = some r2)
    (hf : ∀ (o1 : Nat) (u1 : Nat → Nat) (o2 : Nat) (u2 : Nat → Nat) (w : Nat) (μ : Mm), mw μ = stW cy ad o1 u1 r1 o2 u2 r2 w → va_D A (stW cy ad o1 u1 r1 o2 u2 r2 w) → xw_mlaw_23 fu cy ad mi L xs 513 219 631547 μ o1 o2 w 0) : W p l e room_1 s m #[Value.ref b] below meth c s.heap [] 0 0 (lw_Z below #[Value.ref b] s) (F0 m 0 ls []) := by
  obtain ⟨hlt, hx, hb, hr, hml, hown, hts, hlocks, hK, hA, hSt, hT, hMi, hX, hbl, hbA, hNC, hfo⟩ := id F
  have hP : va_P D classes [] s.heap := fun i x h => by cases h
  have hD : va_D A [] := ⟨fun i j x y h => (by cases h), fun i x h => (by cases h)⟩
  have hS : va_S A s.heap s.heap [] := va_S.rf
  refine va_new (ci := 0) (fs := [.null, .int (0 : Int32), .null, .null, .null, .null, .null, .null, .null, .null, .null, .int (0 : Int32), .int (0 : Int32)]) (C := "CoinKeeper") (T := F_0) (N := 13) hx hb hts i_0 t_0 t_0_ok hown (hts _ gw_30) (hts _ gw_31) (hts _ gw_1) hK hP hD hS hA rfl df_0 (Nat.le_of_ble_eq_true rfl) (Nat.le_of_ble_eq_true rfl) d_law_0 (fun o1 H hP hD hS => ?_)
  refine W.widen (k := 1) (n := 13) (Nat.le_of_ble_eq_true rfl) (Nat.le_of_ble_eq_true rfl) ?_
  have hP : va_P D classes [(o1, .inr (0, [.null, .int (0 : Int32), .null, .null, .null, .null, .null, .null, .null, .null, .null, .int (0 : Int32), .int (0 : Int32)]))] H := hP
  have hD : va_D A [(o1, .inr (0, [.null, .int (0 : Int32), .null, .null, .null, .null, .null, .null, .null, .null, .null, .int (0 : Int32), .int (0 : Int32)]))] := hD
  refine lv_dup hx hb d_law_3 rfl ?_
  refine q_avS (wr := []) (va_runI (As := []) (rest := [.ref o1]) ⟨hx, hb, hml, hown, hts⟩ (c_K_init l D cy ad fu o1 (0 : Int32) (0 : Int32) (0 : Int32) r1 hk H.size) ⟨q_cB hts gw_34 gw_1 gw_32 hds_0 ⟨by decide, by decide⟩, rfl, hts _ gw_33⟩ (q_pre (hP.sub [0] rfl) (hD.sub [0] (by decide) rfl) hK hSt hS (va_free hD hS hA [0] rfl) _) rfl rfl hl.1 rfl (lv_room (Nat.le_of_ble_eq_true rfl)) d_law_4 ⟨Nat.le_of_ble_eq_true rfl, Nat.le_of_ble_eq_true rfl⟩) hP hD hS hA [0] [] rfl rfl (by decide) (by decide) (fun u1 H locs hP hD hS => ?_)
  refine W.widen (k := 139) (n := 22414) (Nat.le_of_ble_eq_true rfl) (Nat.le_of_ble_eq_true rfl) ?_
  replace hP : va_P D classes (kW cy ad o1 u1 r1) H := hP
  replace hD : va_D A (kW cy ad o1 u1 r1) := hD
  refine lv_astore_n (lv' := [(1, .ref o1), (0, .ref b)]) hx hb d_law_7 rfl hl (by decide) rfl (fun ls hl => ?_)
  refine va_new (ci := 12) (fs := [.null, .null, .int (0 : Int32), .int (0 : Int32), .int (0 : Int32), .null, .null, .null, .null, .null, .null, .null, .null, .null, .null, .int (0 : Int32), .int (0 : Int32), .null, .null, .null, .null, .null, .null, .null, .null, .int (0 : Int32), .null, .null, .null, .null, .null, .int (0 : Int32), .null, .null, .null, .null, .int (0 : Int32), .null, .null, .null, .null, .null, .null, .null, .null, .null, .null, .null, .null, .null, .null, .null, .null, .null, .null, .null, .null, .null, .null, .null, .null, .null, .null, .null, .null, .null, .null, .null, .null, .null, .null, .null, .null, .null, .int (0 : Int32), .null, .null, .null, .null, .int (0 : Int32), .int (0 : Int32), .int (0 : Int32), .null, .int (0 : Int32), .int (0 : Int32), .int (0 : Int32), .int (0 : Int32), .null, .null, .int (0 : Int32), .int (0 : Int32), .int (0 : Int32), .null, .null, .null, .int (0 : Int32), .null, .null]) (C := "CoinKeeperModel") (T := F_12) (N := 98) hx hb hts i_12 t_12 t_12_ok hown (hts _ gw_1356) (hts _ gw_1357) (hts _ gw_18) hK hP hD hS hA rfl df_12 (Nat.le_of_ble_eq_true rfl) (Nat.le_of_ble_eq_true rfl) d_law_8 (fun o2 H hP hD hS => ?_)
  refine W.widen (k := 140) (n := 22512) (Nat.le_of_ble_eq_true rfl) (Nat.le_of_ble_eq_true rfl) ?_
  refine lv_dup hx hb d_law_11 rfl ?_
  refine q_avS (wr := kW cy ad o1 u1 r1) (va_runI (As := []) (rest := [.ref o2]) ⟨hx, hb, hml, hown, hts⟩ (c_M_init l D cy ad fu o2 (0 : Int32) (0 : Int32) (0 : Int32) (0 : Int32) (0 : Int32) (0 : Int32) (0 : Int32) (0 : Int32) (0 : Int32) (0 : Int32) (0 : Int32) (0 : Int32) (0 : Int32) (0 : Int32) (0 : Int32) (0 : Int32) (0 : Int32) (0 : Int32) (0 : Int32) (0 : Int32) r2 hm H.size) ⟨q_cB hts gw_1360 gw_18 gw_1358 hds_1 ⟨by decide, by decide⟩, rfl, hts _ gw_1359⟩ (q_pre (hP.sub [139] rfl) (hD.sub [139] (by decide) rfl) hK hSt hS (va_free hD hS hA [139] rfl) _) rfl rfl hl.1 rfl (lv_room (Nat.le_of_ble_eq_true rfl)) d_law_12 ⟨Nat.le_of_ble_eq_true rfl, Nat.le_of_ble_eq_true rfl⟩) hP hD hS hA [139] (List.range 139) rfl (rgm (kW cy ad o1 u1 r1) _) (by decide +kernel) (fun i hi => by have := List.mem_range.mp hi; simp; omega) (fun u2 H locs hP hD hS => ?_)
  refine W.widen (k := 218) (n := 631546) (Nat.le_of_ble_eq_true rfl) (Nat.le_of_ble_eq_true rfl) ?_
  replace hP : va_P D classes (kW cy ad o1 u1 r1 ++ mW0 cy o2 u2 r2) H := hP
  replace hD : va_D A (kW cy ad o1 u1 r1 ++ mW0 cy o2 u2 r2) := hD
  refine lv_astore_n (lv' := [(2, .ref o2), (1, .ref o1), (0, .ref b)]) hx hb d_law_15 rfl hl (by decide) rfl (fun ls hl => ?_)
  refine lv_iconst (v := 1) hx hb d_law_16 (by decide) ?_
  refine q_newa (ty := .long) (a0 := (1, .inr (.inl (fun _ => 0)))) hx hb hts gw_98 rfl hK hP hD hS hA 2 rfl (fun _ h => h) (fun _ => rfl) (by decide) (by decide) (by decide) (Nat.le_of_ble_eq_true rfl) (Nat.le_of_ble_eq_true rfl) d_law_17 (fun w H hP hD hS => ?_)
  refine W.widen (k := 219) (n := 631547) (Nat.le_of_ble_eq_true rfl) (Nat.le_of_ble_eq_true rfl) ?_
  replace hP : va_P D classes (stW cy ad o1 u1 r1 o2 u2 r2 w) H := hP
  replace hD : va_D A (stW cy ad o1 u1 r1 o2 u2 r2 w) := hD
  refine lv_astore_n (lv' := [(3, .ref w), (2, .ref o2), (1, .ref o1), (0, .ref b)]) hx hb d_law_19 rfl hl (by decide) rfl (fun ls hl => ?_)
  refine lv_iconst (v := 0) hx hb d_law_20 (by decide) ?_
  refine lv_istore (lv' := [(4, .int (0 : Int32)), (3, .ref w), (2, .ref o2), (1, .ref o1), (0, .ref b)]) hx hb d_law_21 hl (by decide) rfl (fun ls hl => ?_)
  obtain ⟨μ, hμ⟩ := mw_of hD.1
  have hf := hf o1 u1 o2 u2 w μ hμ hD
  rw [← hμ] at hP hD
  exact ww_mlaw_23 (fu := fu) F 513 219 631547 μ o1 o2 w 0 hf (by decide) (by decide) H _ ls hP hD hS (lv_sub hl [4, 3, 2, 1, 0] rfl)
