abbrev rm_Cu_multiply_e21 : Room := { frames := 0, cells := 0, slots := 0, locals := 0 }
abbrev q_Cu_multiply_e21 (D : va_G) (cy : Nat → ClassId) (A : Nat → Prop) (b0 : Nat) (b1 : Nat) (h0 : Nat → Int64) (res : (Nat → Int64)) : Array Value → State → Outcome → State → Prop := va_Qv (fun (_ : Unit) => True) (fun _ t => Po D cy A [(b0, .inl (cy 2, 10, .inr (.inl h0))), (b1, .inl (cy 2, 10, .inr (.inl res)))] t) A
def I_Cu_multiply_e21_1007 (p : Program) (l : Launch) (e : Env) (s : State) (m : MethodId) (args : Array Value) (below : List Frame) (meth : Method) (c : Code) (D : va_G) (cy : Nat → ClassId) (A : Nat → Prop) (ad : Nat → Nat) (b0 : Nat) (b1 : Nat) (h0 : Nat → Int64) (k : Int32 → (Nat → Int64) → Option ((Nat → Int64))) : Prop :=
  ∀ (x63 : Int32) (u0 : Nat → Int64) (res : (Nat → Int64)), k x63 u0 = some res → ∀ (H : Heap) (locs : List Loc) (ls : Array Slot), va_P D classes [(b0, .inl (cy 2, 10, .inr (.inl h0))), (b1, .inl (cy 2, 10, .inr (.inl u0)))] H → va_D A [(b0, .inl (cy 2, 10, .inr (.inl h0))), (b1, .inl (cy 2, 10, .inr (.inl u0)))] → va_S A s.heap H locs → lv_has ls 65 [(2, .ref b1), (63, .int x63)] → W p l e rm_Cu_multiply_e21 s m args below meth c H locs 0 0 (MQ below (q_Cu_multiply_e21 D cy A b0 b1 h0 res) args s 0 0 A) (F0 m 1007 ls [])
def I_Cu_multiply_e21_e (p : Program) (l : Launch) (e : Env) (s : State) (m : MethodId) (args : Array Value) (below : List Frame) (meth : Method) (c : Code) (D : va_G) (cy : Nat → ClassId) (A : Nat → Prop) (ad : Nat → Nat) (b0 : Nat) (b1 : Nat) (h0 : Nat → Int64) (k : (Nat → Int64) → Option ((Nat → Int64))) : Prop :=
  ∀ (u0 : Nat → Int64) (res : (Nat → Int64)), k u0 = some res → ∀ (H : Heap) (locs : List Loc) (ls : Array Slot), va_P D classes [(b0, .inl (cy 2, 10, .inr (.inl h0))), (b1, .inl (cy 2, 10, .inr (.inl u0)))] H → va_D A [(b0, .inl (cy 2, 10, .inr (.inl h0))), (b1, .inl (cy 2, 10, .inr (.inl u0)))] → va_S A s.heap H locs → lv_has ls 65 [(0, .ref b0), (1, .ref b1), (2, .ref b1)] → W p l e rm_Cu_multiply_e21 s m args below meth c H locs 0 0 (MQ below (q_Cu_multiply_e21 D cy A b0 b1 h0 res) args s 0 0 A) (F0 m 0 ls [])
set_option maxHeartbeats 8000000 in
set_option maxRecDepth 100000 in
theorem wb_Cu_multiply_e21_1007 {p : Program} {l : Launch} {e : Env} {s : State} {m : MethodId} {args : Array Value} {below : List Frame} {meth : Method} {c : Code} {D : va_G} {cy : Nat → ClassId} {A : Nat → Prop} {ad : Nat → Nat} {b0 : Nat} {b1 : Nat} {h0 : Nat → Int64} {fu : Nat} {k_1007 : Int32 → (Nat → Int64) → Option ((Nat → Int64))} (F : Fx p s m args meth c b_Cu_multiply 65 "CoinKeeper$Curve" "multiply" none D cy ad A) (hk_1007 : I_Cu_multiply_e21_1007 p l e s m args below meth c D cy A ad b0 b1 h0 k_1007) : I_Cu_multiply_e21_1007 p l e s m args below meth c D cy A ad b0 b1 h0 (xb_Cu_multiply_e21_1007 fu h0 k_1007) := by
  obtain ⟨hx, hb, hr, hml, hown, hts, hlocks, hK, hA, hSt, hnm, hex⟩ := id F
  intro x63 u0 res hf H locs ls hP hD hS hl
  unfold xb_Cu_multiply_e21_1007 at hf
  refine lv_iload hx hb d_Cu_multiply_1007 (lv_at hl 1 rfl) ?_
  refine lv_bipush (v := 9) hx hb d_Cu_multiply_1009 (by decide) ?_
  refine lv_icmp_ge (tgt := 1046) hx hb d_Cu_multiply_1011 (by decide) (fun cx => ?_) (fun cx => ?_)
  · have hf := ifp cx hf
    refine lv_aload_n hx hb d_Cu_multiply_1046 rfl (lv_at hl 0 rfl) ?_
    refine lv_bipush (v := 9) hx hb d_Cu_multiply_1047 (by decide) ?_
    refine va_lald hx hb hK hP 1 2 rfl rfl (inb_in (by decide)) d_Cu_multiply_1049 ?_
    refine lv_topl (fun v1 ev => ?_)
    have hf := bn ev hf
    clear ev
    refine lv_bipush (v := 22) hx hb d_Cu_multiply_1050 (by decide) ?_
    refine lv_lshr hx hb d_Cu_multiply_1052 rfl ?_
    refine lv_topl (fun v2 ev => ?_)
    have hf := bn ev hf
    clear ev
    refine lv_lstore (lv' := [(63, .long v2), (2, .ref b1)]) hx hb d_Cu_multiply_1053 hl (by decide) rfl (fun ls hl => ?_)
    refine lv_aload_n hx hb d_Cu_multiply_1055 rfl (lv_at hl 1 rfl) ?_
    refine lv_bipush (v := 9) hx hb d_Cu_multiply_1056 (by decide) ?_
    refine lv_dup2_11 hx hb d_Cu_multiply_1058 rfl rfl ?_
    refine va_lald hx hb hK hP 1 2 rfl rfl (inb_in (by decide)) d_Cu_multiply_1059 ?_
    refine lv_topl (fun v3 ev => ?_)
    have hf := bn ev hf
    clear ev
    refine lv_ldc2 (v := 4194303) hx hb hown (hts _ gw_1083) d_Cu_multiply_1060 ?_
    refine lv_land hx hb d_Cu_multiply_1063 ?_
    refine lv_topl (fun v4 ev => ?_)
    have hf := bn ev hf
    clear ev
    refine va_last hx hb hK hP hD hS 1 2 rfl rfl (inb_in (by decide)) d_Cu_multiply_1064 (fun H locs hP hD hS => ?_)
    obtain ⟨f5, ev, hf⟩ := bne hf
    have hP : va_P D classes [(b0, .inl (cy 2, 10, .inr (.inl h0))), (b1, .inl (cy 2, 10, .inr (.inl f5)))] H := by rw [ev]; exact hP
    have hD : va_D A [(b0, .inl (cy 2, 10, .inr (.inl h0))), (b1, .inl (cy 2, 10, .inr (.inl f5)))] := by rw [ev]; exact hD
    clear ev
    refine lv_aload_n hx hb d_Cu_multiply_1065 rfl (lv_at hl 1 rfl) ?_
    refine lv_iconst (v := 0) hx hb d_Cu_multiply_1066 (by decide) ?_
    refine lv_dup2_11 hx hb d_Cu_multiply_1067 rfl rfl ?_
    refine va_lald hx hb hK hP 1 2 rfl rfl (inb_in (by decide)) d_Cu_multiply_1068 ?_
    refine lv_topl (fun v6 ev => ?_)
    have hf := bn ev hf
    clear ev
    refine lv_lload hx hb d_Cu_multiply_1069 (lv_at hl 0 rfl) ?_
    refine lv_ldc2 (v := 977) hx hb hown (hts _ gw_1084) d_Cu_multiply_1071 ?_
    refine lv_lmul hx hb d_Cu_multiply_1074 ?_
    refine lv_ladd hx hb d_Cu_multiply_1075 ?_
    refine lv_topl (fun v7 ev => ?_)
    have hf := bn ev hf
    clear ev
    refine va_last hx hb hK hP hD hS 1 2 rfl rfl (inb_in (by decide)) d_Cu_multiply_1076 (fun H locs hP hD hS => ?_)
    obtain ⟨f8, ev, hf⟩ := bne hf
    have hP : va_P D classes [(b0, .inl (cy 2, 10, .inr (.inl h0))), (b1, .inl (cy 2, 10, .inr (.inl f8)))] H := by rw [ev]; exact hP
    have hD : va_D A [(b0, .inl (cy 2, 10, .inr (.inl h0))), (b1, .inl (cy 2, 10, .inr (.inl f8)))] := by rw [ev]; exact hD
    clear ev
    refine lv_aload_n hx hb d_Cu_multiply_1077 rfl (lv_at hl 1 rfl) ?_
    refine lv_iconst (v := 1) hx hb d_Cu_multiply_1078 (by decide) ?_
    refine lv_dup2_11 hx hb d_Cu_multiply_1079 rfl rfl ?_
    refine va_lald hx hb hK hP 1 2 rfl rfl (inb_in (by decide)) d_Cu_multiply_1080 ?_
    refine lv_topl (fun v9 ev => ?_)
    have hf := bn ev hf
    clear ev
    refine lv_lload hx hb d_Cu_multiply_1081 (lv_at hl 0 rfl) ?_
    refine lv_bipush (v := 6) hx hb d_Cu_multiply_1083 (by decide) ?_
    refine lv_lshl hx hb d_Cu_multiply_1085 rfl ?_
    refine lv_topl (fun v10 ev => ?_)
    have hf := bn ev hf
    clear ev
    refine lv_aload_n hx hb d_Cu_multiply_1086 rfl (lv_at hl 1 rfl) ?_
    refine lv_iconst (v := 0) hx hb d_Cu_multiply_1087 (by decide) ?_
    refine va_lald hx hb hK hP 1 2 rfl rfl (inb_in (by decide)) d_Cu_multiply_1088 ?_
    refine lv_topl (fun v11 ev => ?_)
    have hf := bn ev hf
    clear ev
    refine lv_bipush (v := 26) hx hb d_Cu_multiply_1089 (by decide) ?_
    refine lv_lshr hx hb d_Cu_multiply_1091 rfl ?_
    refine lv_ladd hx hb d_Cu_multiply_1092 ?_
    refine lv_ladd hx hb d_Cu_multiply_1093 ?_
    refine lv_topl (fun v12 ev => ?_)
    have hf := bn ev hf
    clear ev
    refine va_last hx hb hK hP hD hS 1 2 rfl rfl (inb_in (by decide)) d_Cu_multiply_1094 (fun H locs hP hD hS => ?_)
    obtain ⟨f13, ev, hf⟩ := bne hf
    have hP : va_P D classes [(b0, .inl (cy 2, 10, .inr (.inl h0))), (b1, .inl (cy 2, 10, .inr (.inl f13)))] H := by rw [ev]; exact hP
    have hD : va_D A [(b0, .inl (cy 2, 10, .inr (.inl h0))), (b1, .inl (cy 2, 10, .inr (.inl f13)))] := by rw [ev]; exact hD
    clear ev
    refine lv_aload_n hx hb d_Cu_multiply_1095 rfl (lv_at hl 1 rfl) ?_
    refine lv_iconst (v := 0) hx hb d_Cu_multiply_1096 (by decide) ?_
    refine lv_dup2_11 hx hb d_Cu_multiply_1097 rfl rfl ?_
    refine va_lald hx hb hK hP 1 2 rfl rfl (inb_in (by decide)) d_Cu_multiply_1098 ?_
    refine lv_topl (fun v14 ev => ?_)
    have hf := bn ev hf
    clear ev
    refine lv_ldc2 (v := 67108863) hx hb hown (hts _ gw_1075) d_Cu_multiply_1099 ?_
    refine lv_land hx hb d_Cu_multiply_1102 ?_
    refine lv_topl (fun v15 ev => ?_)
    have hf := bn ev hf
    clear ev
    refine va_last hx hb hK hP hD hS 1 2 rfl rfl (inb_in (by decide)) d_Cu_multiply_1103 (fun H locs hP hD hS => ?_)
    obtain ⟨f16, ev, hf⟩ := bne hf
    have hP : va_P D classes [(b0, .inl (cy 2, 10, .inr (.inl h0))), (b1, .inl (cy 2, 10, .inr (.inl f16)))] H := by rw [ev]; exact hP
    have hD : va_D A [(b0, .inl (cy 2, 10, .inr (.inl h0))), (b1, .inl (cy 2, 10, .inr (.inl f16)))] := by rw [ev]; exact hD
    clear ev
    refine lv_aload_n hx hb d_Cu_multiply_1104 rfl (lv_at hl 1 rfl) ?_
    refine lv_iconst (v := 2) hx hb d_Cu_multiply_1105 (by decide) ?_
    refine lv_dup2_11 hx hb d_Cu_multiply_1106 rfl rfl ?_
    refine va_lald hx hb hK hP 1 2 rfl rfl (inb_in (by decide)) d_Cu_multiply_1107 ?_
    refine lv_topl (fun v17 ev => ?_)
    have hf := bn ev hf
    clear ev
    refine lv_aload_n hx hb d_Cu_multiply_1108 rfl (lv_at hl 1 rfl) ?_
    refine lv_iconst (v := 1) hx hb d_Cu_multiply_1109 (by decide) ?_
    refine va_lald hx hb hK hP 1 2 rfl rfl (inb_in (by decide)) d_Cu_multiply_1110 ?_
    refine lv_topl (fun v18 ev => ?_)
    have hf := bn ev hf
    clear ev
    refine lv_bipush (v := 26) hx hb d_Cu_multiply_1111 (by decide) ?_
    refine lv_lshr hx hb d_Cu_multiply_1113 rfl ?_
    refine lv_ladd hx hb d_Cu_multiply_1114 ?_
    refine lv_topl (fun v19 ev => ?_)
    have hf := bn ev hf
    clear ev
    refine va_last hx hb hK hP hD hS 1 2 rfl rfl (inb_in (by decide)) d_Cu_multiply_1115 (fun H locs hP hD hS => ?_)
    obtain ⟨f20, ev, hf⟩ := bne hf
    have hP : va_P D classes [(b0, .inl (cy 2, 10, .inr (.inl h0))), (b1, .inl (cy 2, 10, .inr (.inl f20)))] H := by rw [ev]; exact hP
    have hD : va_D A [(b0, .inl (cy 2, 10, .inr (.inl h0))), (b1, .inl (cy 2, 10, .inr (.inl f20)))] := by rw [ev]; exact hD
    clear ev
    refine lv_aload_n hx hb d_Cu_multiply_1116 rfl (lv_at hl 1 rfl) ?_
    refine lv_iconst (v := 1) hx hb d_Cu_multiply_1117 (by decide) ?_
    refine lv_dup2_11 hx hb d_Cu_multiply_1118 rfl rfl ?_
    refine va_lald hx hb hK hP 1 2 rfl rfl (inb_in (by decide)) d_Cu_multiply_1119 ?_
    refine lv_topl (fun v21 ev => ?_)
    have hf := bn ev hf
    clear ev
    refine lv_ldc2 (v := 67108863) hx hb hown (hts _ gw_1075) d_Cu_multiply_1120 ?_
    refine lv_land hx hb d_Cu_multiply_1123 ?_
    refine lv_topl (fun v22 ev => ?_)
    have hf := bn ev hf
    clear ev
    refine va_last hx hb hK hP hD hS 1 2 rfl rfl (inb_in (by decide)) d_Cu_multiply_1124 (fun H locs hP hD hS => ?_)
    obtain ⟨f23, ev, hf⟩ := bne hf
    have hP : va_P D classes [(b0, .inl (cy 2, 10, .inr (.inl h0))), (b1, .inl (cy 2, 10, .inr (.inl f23)))] H := by rw [ev]; exact hP
    have hD : va_D A [(b0, .inl (cy 2, 10, .inr (.inl h0))), (b1, .inl (cy 2, 10, .inr (.inl f23)))] := by rw [ev]; exact hD
    clear ev
    obtain rfl := Option.some.inj hf
    exact q_rv hx hb hr hlocks hK hP hD hS d_Cu_multiply_1125
  · have hf := ifn cx hf
    refine lv_aload_n hx hb d_Cu_multiply_1014 rfl (lv_at hl 0 rfl) ?_
    refine lv_iload hx hb d_Cu_multiply_1015 (lv_at hl 1 rfl) ?_
    refine lv_iconst (v := 1) hx hb d_Cu_multiply_1017 (by decide) ?_
    refine lv_iadd hx hb d_Cu_multiply_1018 ?_
    refine lv_topi (fun v24 ev => ?_)
    have hf := bn ev hf
    clear ev
    refine lv_dup2_11 hx hb d_Cu_multiply_1019 rfl rfl ?_
    obtain ⟨hg, hf⟩ := gdp hf
    refine va_lald hx hb hK hP 1 2 rfl rfl (inb_in hg) d_Cu_multiply_1020 ?_
    refine lv_topl (fun v25 ev => ?_)
    have hf := bn ev hf
    clear ev
    refine lv_aload_n hx hb d_Cu_multiply_1021 rfl (lv_at hl 0 rfl) ?_
    refine lv_iload hx hb d_Cu_multiply_1022 (lv_at hl 1 rfl) ?_
    obtain ⟨hg, hf⟩ := gdp hf
    refine va_lald hx hb hK hP 1 2 rfl rfl (inb_in hg) d_Cu_multiply_1024 ?_
    refine lv_topl (fun v26 ev => ?_)
    have hf := bn ev hf
    clear ev
    refine lv_bipush (v := 26) hx hb d_Cu_multiply_1025 (by decide) ?_
    refine lv_lshr hx hb d_Cu_multiply_1027 rfl ?_
    refine lv_ladd hx hb d_Cu_multiply_1028 ?_
    refine lv_topl (fun v27 ev => ?_)
    have hf := bn ev hf
    clear ev
    obtain ⟨hg, hf⟩ := gdp hf
    refine va_last hx hb hK hP hD hS 1 2 rfl rfl (inb_in hg) d_Cu_multiply_1029 (fun H locs hP hD hS => ?_)
    obtain ⟨f28, ev, hf⟩ := bne hf
    have hP : va_P D classes [(b0, .inl (cy 2, 10, .inr (.inl h0))), (b1, .inl (cy 2, 10, .inr (.inl f28)))] H := by rw [ev]; exact hP
    have hD : va_D A [(b0, .inl (cy 2, 10, .inr (.inl h0))), (b1, .inl (cy 2, 10, .inr (.inl f28)))] := by rw [ev]; exact hD
    clear ev
    refine lv_aload_n hx hb d_Cu_multiply_1030 rfl (lv_at hl 0 rfl) ?_
    refine lv_iload hx hb d_Cu_multiply_1031 (lv_at hl 1 rfl) ?_
    refine lv_dup2_11 hx hb d_Cu_multiply_1033 rfl rfl ?_
    obtain ⟨hg, hf⟩ := gdp hf
    refine va_lald hx hb hK hP 1 2 rfl rfl (inb_in hg) d_Cu_multiply_1034 ?_
    refine lv_topl (fun v29 ev => ?_)
    have hf := bn ev hf
    clear ev
    refine lv_ldc2 (v := 67108863) hx hb hown (hts _ gw_1075) d_Cu_multiply_1035 ?_
    refine lv_land hx hb d_Cu_multiply_1038 ?_
    refine lv_topl (fun v30 ev => ?_)
    have hf := bn ev hf
    clear ev
    obtain ⟨hg, hf⟩ := gdp hf
    refine va_last hx hb hK hP hD hS 1 2 rfl rfl (inb_in hg) d_Cu_multiply_1039 (fun H locs hP hD hS => ?_)
    obtain ⟨f31, ev, hf⟩ := bne hf
    have hP : va_P D classes [(b0, .inl (cy 2, 10, .inr (.inl h0))), (b1, .inl (cy 2, 10, .inr (.inl f31)))] H := by rw [ev]; exact hP
    have hD : va_D A [(b0, .inl (cy 2, 10, .inr (.inl h0))), (b1, .inl (cy 2, 10, .inr (.inl f31)))] := by rw [ev]; exact hD
    clear ev
    obtain ⟨v32, ev, hf⟩ := bne hf
    refine lv_iinc (v := v32) (lv' := [(63, .int v32), (2, .ref b1)]) hx hb d_Cu_multiply_1040 hl (k := 1) rfl (by rw [ev]; rfl) (by decide) rfl (fun ls hl => ?_)
    clear ev
    refine lv_goto (tgt := 1007) hx hb d_Cu_multiply_1043 (by decide) ?_
    exact hk_1007 _ _ _ hf _ _ _ hP hD hS (lv_sub hl [1, 0] rfl)
theorem w_Cu_multiply_e21_1007 {p : Program} {l : Launch} {e : Env} {s : State} {m : MethodId} {args : Array Value} {below : List Frame} {meth : Method} {c : Code} {D : va_G} {cy : Nat → ClassId} {A : Nat → Prop} {ad : Nat → Nat} {b0 : Nat} {b1 : Nat} {h0 : Nat → Int64} {fu : Nat} (F : Fx p s m args meth c b_Cu_multiply 65 "CoinKeeper$Curve" "multiply" none D cy ad A) : ∀ n : Nat, I_Cu_multiply_e21_1007 p l e s m args below meth c D cy A ad b0 b1 h0 (x_Cu_multiply_e21_1007 fu h0 n)
  | 0 => fun _ _ _ hf => nomatch (show (none : Option ((Nat → Int64))) = some _ from hf)
  | n + 1 => wb_Cu_multiply_e21_1007 F (w_Cu_multiply_e21_1007 F n)
set_option maxHeartbeats 8000000 in
set_option maxRecDepth 100000 in
theorem we_Cu_multiply_e21 {p : Program} {l : Launch} {e : Env} {s : State} {m : MethodId} {args : Array Value} {below : List Frame} {meth : Method} {c : Code} {D : va_G} {cy : Nat → ClassId} {A : Nat → Prop} {ad : Nat → Nat} {b0 : Nat} {b1 : Nat} {h0 : Nat → Int64} {fu : Nat} (F : Fx p s m args meth c b_Cu_multiply 65 "CoinKeeper$Curve" "multiply" none D cy ad A) : I_Cu_multiply_e21_e p l e s m args below meth c D cy A ad b0 b1 h0 (x_Cu_multiply_e21 fu h0) := by
  obtain ⟨hx, hb, hr, hml, hown, hts, hlocks, hK, hA, hSt, hnm, hex⟩ := id F
  intro u0 res hf H locs ls hP hD hS hl
  unfold x_Cu_multiply_e21 at hf
  refine lv_aload_n hx hb d_Cu_multiply_0 rfl (lv_at hl 0 rfl) ?_
  refine lv_iconst (v := 0) hx hb d_Cu_multiply_1 (by decide) ?_
  refine va_lald hx hb hK hP 0 2 rfl rfl (inb_in (by decide)) d_Cu_multiply_2 ?_
  refine lv_topl (fun v1 ev => ?_)
  have hf := bn ev hf
  clear ev
  refine lv_lstore_n (lv' := [(3, .long v1), (0, .ref b0), (1, .ref b1), (2, .ref b1)]) hx hb d_Cu_multiply_3 rfl hl (by decide) rfl (fun ls hl => ?_)
  refine lv_aload_n hx hb d_Cu_multiply_4 rfl (lv_at hl 1 rfl) ?_
  refine lv_iconst (v := 1) hx hb d_Cu_multiply_5 (by decide) ?_
  refine va_lald hx hb hK hP 0 2 rfl rfl (inb_in (by decide)) d_Cu_multiply_6 ?_
  refine lv_topl (fun v2 ev => ?_)
  have hf := bn ev hf
  clear ev
  refine lv_lstore (lv' := [(5, .long v2), (3, .long v1), (0, .ref b0), (1, .ref b1), (2, .ref b1)]) hx hb d_Cu_multiply_7 hl (by decide) rfl (fun ls hl => ?_)
  refine lv_aload_n hx hb d_Cu_multiply_9 rfl (lv_at hl 2 rfl) ?_
  refine lv_iconst (v := 2) hx hb d_Cu_multiply_10 (by decide) ?_
  refine va_lald hx hb hK hP 0 2 rfl rfl (inb_in (by decide)) d_Cu_multiply_11 ?_
  refine lv_topl (fun v3 ev => ?_)
  have hf := bn ev hf
  clear ev
  refine lv_lstore (lv' := [(7, .long v3), (5, .long v2), (3, .long v1), (0, .ref b0), (1, .ref b1), (2, .ref b1)]) hx hb d_Cu_multiply_12 hl (by decide) rfl (fun ls hl => ?_)
  refine lv_aload_n hx hb d_Cu_multiply_14 rfl (lv_at hl 3 rfl) ?_
  refine lv_iconst (v := 3) hx hb d_Cu_multiply_15 (by decide) ?_
  refine va_lald hx hb hK hP 0 2 rfl rfl (inb_in (by decide)) d_Cu_multiply_16 ?_
  refine lv_topl (fun v4 ev => ?_)
  have hf := bn ev hf
  clear ev
  refine lv_lstore (lv' := [(9, .long v4), (7, .long v3), (5, .long v2), (3, .long v1), (0, .ref b0), (1, .ref b1), (2, .ref b1)]) hx hb d_Cu_multiply_17 hl (by decide) rfl (fun ls hl => ?_)
  refine lv_aload_n hx hb d_Cu_multiply_19 rfl (lv_at hl 4 rfl) ?_
  refine lv_iconst (v := 4) hx hb d_Cu_multiply_20 (by decide) ?_
  refine va_lald hx hb hK hP 0 2 rfl rfl (inb_in (by decide)) d_Cu_multiply_21 ?_
  refine lv_topl (fun v5 ev => ?_)
  have hf := bn ev hf
  clear ev
  refine lv_lstore (lv' := [(11, .long v5), (9, .long v4), (7, .long v3), (5, .long v2), (3, .long v1), (0, .ref b0), (1, .ref b1), (2, .ref b1)]) hx hb d_Cu_multiply_22 hl (by decide) rfl (fun ls hl => ?_)
  refine lv_aload_n hx hb d_Cu_multiply_24 rfl (lv_at hl 5 rfl) ?_
  refine lv_iconst (v := 5) hx hb d_Cu_multiply_25 (by decide) ?_
  refine va_lald hx hb hK hP 0 2 rfl rfl (inb_in (by decide)) d_Cu_multiply_26 ?_
  refine lv_topl (fun v6 ev => ?_)
  have hf := bn ev hf
  clear ev
  refine lv_lstore (lv' := [(13, .long v6), (11, .long v5), (9, .long v4), (7, .long v3), (5, .long v2), (3, .long v1), (0, .ref b0), (1, .ref b1), (2, .ref b1)]) hx hb d_Cu_multiply_27 hl (by decide) rfl (fun ls hl => ?_)
  refine lv_aload_n hx hb d_Cu_multiply_29 rfl (lv_at hl 6 rfl) ?_
  refine lv_bipush (v := 6) hx hb d_Cu_multiply_30 (by decide) ?_
  refine va_lald hx hb hK hP 0 2 rfl rfl (inb_in (by decide)) d_Cu_multiply_32 ?_
  refine lv_topl (fun v7 ev => ?_)
  have hf := bn ev hf
  clear ev
  refine lv_lstore (lv' := [(15, .long v7), (13, .long v6), (11, .long v5), (9, .long v4), (7, .long v3), (5, .long v2), (3, .long v1), (0, .ref b0), (1, .ref b1), (2, .ref b1)]) hx hb d_Cu_multiply_33 hl (by decide) rfl (fun ls hl => ?_)
  refine lv_aload_n hx hb d_Cu_multiply_35 rfl (lv_at hl 7 rfl) ?_
  refine lv_bipush (v := 7) hx hb d_Cu_multiply_36 (by decide) ?_
  refine va_lald hx hb hK hP 0 2 rfl rfl (inb_in (by decide)) d_Cu_multiply_38 ?_
  refine lv_topl (fun v8 ev => ?_)
  have hf := bn ev hf
  clear ev
  refine lv_lstore (lv' := [(17, .long v8), (15, .long v7), (13, .long v6), (11, .long v5), (9, .long v4), (7, .long v3), (5, .long v2), (3, .long v1), (0, .ref b0), (1, .ref b1), (2, .ref b1)]) hx hb d_Cu_multiply_39 hl (by decide) rfl (fun ls hl => ?_)
  refine lv_aload_n hx hb d_Cu_multiply_41 rfl (lv_at hl 8 rfl) ?_
  refine lv_bipush (v := 8) hx hb d_Cu_multiply_42 (by decide) ?_
  refine va_lald hx hb hK hP 0 2 rfl rfl (inb_in (by decide)) d_Cu_multiply_44 ?_
  refine lv_topl (fun v9 ev => ?_)
  have hf := bn ev hf
  clear ev
  refine lv_lstore (lv' := [(19, .long v9), (17, .long v8), (15, .long v7), (13, .long v6), (11, .long v5), (9, .long v4), (7, .long v3), (5, .long v2), (3, .long v1), (0, .ref b0), (1, .ref b1), (2, .ref b1)]) hx hb d_Cu_multiply_45 hl (by decide) rfl (fun ls hl => ?_)
  refine lv_aload_n hx hb d_Cu_multiply_47 rfl (lv_at hl 9 rfl) ?_
  refine lv_bipush (v := 9) hx hb d_Cu_multiply_48 (by decide) ?_
  refine va_lald hx hb hK hP 0 2 rfl rfl (inb_in (by decide)) d_Cu_multiply_50 ?_
  refine lv_topl (fun v10 ev => ?_)
  have hf := bn ev hf
  clear ev
  refine lv_lstore (lv' := [(21, .long v10), (19, .long v9), (17, .long v8), (15, .long v7), (13, .long v6), (11, .long v5), (9, .long v4), (7, .long v3), (5, .long v2), (3, .long v1), (0, .ref b0), (1, .ref b1), (2, .ref b1)]) hx hb d_Cu_multiply_51 hl (by decide) rfl (fun ls hl => ?_)
  refine lv_aload_n hx hb d_Cu_multiply_53 rfl (lv_at hl 11 rfl) ?_
  refine lv_iconst (v := 0) hx hb d_Cu_multiply_54 (by decide) ?_
  refine va_lald hx hb hK hP 1 2 rfl rfl (inb_in (by decide)) d_Cu_multiply_55 ?_
  refine lv_topl (fun v11 ev => ?_)
  have hf := bn ev hf
  clear ev
  refine lv_lstore (lv' := [(23, .long v11), (21, .long v10), (19, .long v9), (17, .long v8), (15, .long v7), (13, .long v6), (11, .long v5), (9, .long v4), (7, .long v3), (5, .long v2), (3, .long v1), (0, .ref b0), (1, .ref b1), (2, .ref b1)]) hx hb d_Cu_multiply_56 hl (by decide) rfl (fun ls hl => ?_)
  refine lv_aload_n hx hb d_Cu_multiply_58 rfl (lv_at hl 12 rfl) ?_
  refine lv_iconst (v := 1) hx hb d_Cu_multiply_59 (by decide) ?_
  refine va_lald hx hb hK hP 1 2 rfl rfl (inb_in (by decide)) d_Cu_multiply_60 ?_
  refine lv_topl (fun v12 ev => ?_)
  have hf := bn ev hf
  clear ev
  refine lv_lstore (lv' := [(25, .long v12), (23, .long v11), (21, .long v10), (19, .long v9), (17, .long v8), (15, .long v7), (13, .long v6), (11, .long v5), (9, .long v4), (7, .long v3), (5, .long v2), (3, .long v1), (0, .ref b0), (1, .ref b1), (2, .ref b1)]) hx hb d_Cu_multiply_61 hl (by decide) rfl (fun ls hl => ?_)
  refine lv_aload_n hx hb d_Cu_multiply_63 rfl (lv_at hl 13 rfl) ?_
  refine lv_iconst (v := 2) hx hb d_Cu_multiply_64 (by decide) ?_
  refine va_lald hx hb hK hP 1 2 rfl rfl (inb_in (by decide)) d_Cu_multiply_65 ?_
  refine lv_topl (fun v13 ev => ?_)
  have hf := bn ev hf
  clear ev
  refine lv_lstore (lv' := [(27, .long v13), (25, .long v12), (23, .long v11), (21, .long v10), (19, .long v9), (17, .long v8), (15, .long v7), (13, .long v6), (11, .long v5), (9, .long v4), (7, .long v3), (5, .long v2), (3, .long v1), (0, .ref b0), (1, .ref b1), (2, .ref b1)]) hx hb d_Cu_multiply_66 hl (by decide) rfl (fun ls hl => ?_)
  refine lv_aload_n hx hb d_Cu_multiply_68 rfl (lv_at hl 14 rfl) ?_
  refine lv_iconst (v := 3) hx hb d_Cu_multiply_69 (by decide) ?_
  refine va_lald hx hb hK hP 1 2 rfl rfl (inb_in (by decide)) d_Cu_multiply_70 ?_
  refine lv_topl (fun v14 ev => ?_)
  have hf := bn ev hf
  clear ev
  refine lv_lstore (lv' := [(29, .long v14), (27, .long v13), (25, .long v12), (23, .long v11), (21, .long v10), (19, .long v9), (17, .long v8), (15, .long v7), (13, .long v6), (11, .long v5), (9, .long v4), (7, .long v3), (5, .long v2), (3, .long v1), (0, .ref b0), (1, .ref b1), (2, .ref b1)]) hx hb d_Cu_multiply_71 hl (by decide) rfl (fun ls hl => ?_)
  refine lv_aload_n hx hb d_Cu_multiply_73 rfl (lv_at hl 15 rfl) ?_
  refine lv_iconst (v := 4) hx hb d_Cu_multiply_74 (by decide) ?_
  refine va_lald hx hb hK hP 1 2 rfl rfl (inb_in (by decide)) d_Cu_multiply_75 ?_
  refine lv_topl (fun v15 ev => ?_)
  have hf := bn ev hf
  clear ev
  refine lv_lstore (lv' := [(31, .long v15), (29, .long v14), (27, .long v13), (25, .long v12), (23, .long v11), (21, .long v10), (19, .long v9), (17, .long v8), (15, .long v7), (13, .long v6), (11, .long v5), (9, .long v4), (7, .long v3), (5, .long v2), (3, .long v1), (0, .ref b0), (1, .ref b1), (2, .ref b1)]) hx hb d_Cu_multiply_76 hl (by decide) rfl (fun ls hl => ?_)
  refine lv_aload_n hx hb d_Cu_multiply_78 rfl (lv_at hl 16 rfl) ?_
  refine lv_iconst (v := 5) hx hb d_Cu_multiply_79 (by decide) ?_
  refine va_lald hx hb hK hP 1 2 rfl rfl (inb_in (by decide)) d_Cu_multiply_80 ?_
  refine lv_topl (fun v16 ev => ?_)
  have hf := bn ev hf
  clear ev
  refine lv_lstore (lv' := [(33, .long v16), (31, .long v15), (29, .long v14), (27, .long v13), (25, .long v12), (23, .long v11), (21, .long v10), (19, .long v9), (17, .long v8), (15, .long v7), (13, .long v6), (11, .long v5), (9, .long v4), (7, .long v3), (5, .long v2), (3, .long v1), (0, .ref b0), (1, .ref b1), (2, .ref b1)]) hx hb d_Cu_multiply_81 hl (by decide) rfl (fun ls hl => ?_)
  refine lv_aload_n hx hb d_Cu_multiply_83 rfl (lv_at hl 17 rfl) ?_
  refine lv_bipush (v := 6) hx hb d_Cu_multiply_84 (by decide) ?_
  refine va_lald hx hb hK hP 1 2 rfl rfl (inb_in (by decide)) d_Cu_multiply_86 ?_
  refine lv_topl (fun v17 ev => ?_)
  have hf := bn ev hf
  clear ev
  refine lv_lstore (lv' := [(35, .long v17), (33, .long v16), (31, .long v15), (29, .long v14), (27, .long v13), (25, .long v12), (23, .long v11), (21, .long v10), (19, .long v9), (17, .long v8), (15, .long v7), (13, .long v6), (11, .long v5), (9, .long v4), (7, .long v3), (5, .long v2), (3, .long v1), (0, .ref b0), (1, .ref b1), (2, .ref b1)]) hx hb d_Cu_multiply_87 hl (by decide) rfl (fun ls hl => ?_)
  refine lv_aload_n hx hb d_Cu_multiply_89 rfl (lv_at hl 18 rfl) ?_
  refine lv_bipush (v := 7) hx hb d_Cu_multiply_90 (by decide) ?_
  refine va_lald hx hb hK hP 1 2 rfl rfl (inb_in (by decide)) d_Cu_multiply_92 ?_
  refine lv_topl (fun v18 ev => ?_)
  have hf := bn ev hf
  clear ev
  refine lv_lstore (lv' := [(37, .long v18), (35, .long v17), (33, .long v16), (31, .long v15), (29, .long v14), (27, .long v13), (25, .long v12), (23, .long v11), (21, .long v10), (19, .long v9), (17, .long v8), (15, .long v7), (13, .long v6), (11, .long v5), (9, .long v4), (7, .long v3), (5, .long v2), (3, .long v1), (0, .ref b0), (1, .ref b1), (2, .ref b1)]) hx hb d_Cu_multiply_93 hl (by decide) rfl (fun ls hl => ?_)
  refine lv_aload_n hx hb d_Cu_multiply_95 rfl (lv_at hl 19 rfl) ?_
  refine lv_bipush (v := 8) hx hb d_Cu_multiply_96 (by decide) ?_
  refine va_lald hx hb hK hP 1 2 rfl rfl (inb_in (by decide)) d_Cu_multiply_98 ?_
  refine lv_topl (fun v19 ev => ?_)
  have hf := bn ev hf
  clear ev
  refine lv_lstore (lv' := [(39, .long v19), (37, .long v18), (35, .long v17), (33, .long v16), (31, .long v15), (29, .long v14), (27, .long v13), (25, .long v12), (23, .long v11), (21, .long v10), (19, .long v9), (17, .long v8), (15, .long v7), (13, .long v6), (11, .long v5), (9, .long v4), (7, .long v3), (5, .long v2), (3, .long v1), (0, .ref b0), (1, .ref b1), (2, .ref b1)]) hx hb d_Cu_multiply_99 hl (by decide) rfl (fun ls hl => ?_)
  refine lv_aload_n hx hb d_Cu_multiply_101 rfl (lv_at hl 20 rfl) ?_
  refine lv_bipush (v := 9) hx hb d_Cu_multiply_102 (by decide) ?_
  refine va_lald hx hb hK hP 1 2 rfl rfl (inb_in (by decide)) d_Cu_multiply_104 ?_
  refine lv_topl (fun v20 ev => ?_)
  have hf := bn ev hf
  clear ev
  refine lv_lstore (lv' := [(41, .long v20), (39, .long v19), (37, .long v18), (35, .long v17), (33, .long v16), (31, .long v15), (29, .long v14), (27, .long v13), (25, .long v12), (23, .long v11), (21, .long v10), (19, .long v9), (17, .long v8), (15, .long v7), (13, .long v6), (11, .long v5), (9, .long v4), (7, .long v3), (5, .long v2), (3, .long v1), (0, .ref b0), (1, .ref b1), (2, .ref b1)]) hx hb d_Cu_multiply_105 hl (by decide) rfl (fun ls hl => ?_)
  refine lv_lload hx hb d_Cu_multiply_107 (lv_at hl 18 rfl) ?_
  refine lv_lload hx hb d_Cu_multiply_109 (lv_at hl 0 rfl) ?_
  refine lv_lmul hx hb d_Cu_multiply_111 ?_
  refine lv_topl (fun v21 ev => ?_)
  have hf := bn ev hf
  clear ev
  refine lv_lload hx hb d_Cu_multiply_112 (lv_at hl 17 rfl) ?_
  refine lv_lload hx hb d_Cu_multiply_114 (lv_at hl 1 rfl) ?_
  refine lv_lmul hx hb d_Cu_multiply_116 ?_
  refine lv_ladd hx hb d_Cu_multiply_117 ?_
  refine lv_topl (fun v22 ev => ?_)
  have hf := bn ev hf
  clear ev
  refine lv_lload hx hb d_Cu_multiply_118 (lv_at hl 16 rfl) ?_
  refine lv_lload hx hb d_Cu_multiply_120 (lv_at hl 2 rfl) ?_
  refine lv_lmul hx hb d_Cu_multiply_122 ?_
  refine lv_ladd hx hb d_Cu_multiply_123 ?_
  refine lv_topl (fun v23 ev => ?_)
  have hf := bn ev hf
  clear ev
  refine lv_lload hx hb d_Cu_multiply_124 (lv_at hl 15 rfl) ?_
  refine lv_lload hx hb d_Cu_multiply_126 (lv_at hl 3 rfl) ?_
  refine lv_lmul hx hb d_Cu_multiply_128 ?_
  refine lv_ladd hx hb d_Cu_multiply_129 ?_
  refine lv_topl (fun v24 ev => ?_)
  have hf := bn ev hf
  clear ev
  refine lv_lload hx hb d_Cu_multiply_130 (lv_at hl 14 rfl) ?_
  refine lv_lload hx hb d_Cu_multiply_132 (lv_at hl 4 rfl) ?_
  refine lv_lmul hx hb d_Cu_multiply_134 ?_
  refine lv_ladd hx hb d_Cu_multiply_135 ?_
  refine lv_topl (fun v25 ev => ?_)
  have hf := bn ev hf
  clear ev
  refine lv_lload hx hb d_Cu_multiply_136 (lv_at hl 13 rfl) ?_
  refine lv_lload hx hb d_Cu_multiply_138 (lv_at hl 5 rfl) ?_
  refine lv_lmul hx hb d_Cu_multiply_140 ?_
  refine lv_ladd hx hb d_Cu_multiply_141 ?_
  refine lv_topl (fun v26 ev => ?_)
  have hf := bn ev hf
  clear ev
  refine lv_lload hx hb d_Cu_multiply_142 (lv_at hl 12 rfl) ?_
  refine lv_lload hx hb d_Cu_multiply_144 (lv_at hl 6 rfl) ?_
  refine lv_lmul hx hb d_Cu_multiply_146 ?_
  refine lv_ladd hx hb d_Cu_multiply_147 ?_
  refine lv_topl (fun v27 ev => ?_)
  have hf := bn ev hf
  clear ev
  refine lv_lload hx hb d_Cu_multiply_148 (lv_at hl 11 rfl) ?_
  refine lv_lload hx hb d_Cu_multiply_150 (lv_at hl 7 rfl) ?_
  refine lv_lmul hx hb d_Cu_multiply_152 ?_
  refine lv_ladd hx hb d_Cu_multiply_153 ?_
  refine lv_topl (fun v28 ev => ?_)
  have hf := bn ev hf
  clear ev
  refine lv_lload hx hb d_Cu_multiply_154 (lv_at hl 10 rfl) ?_
  refine lv_lload hx hb d_Cu_multiply_156 (lv_at hl 8 rfl) ?_
  refine lv_lmul hx hb d_Cu_multiply_158 ?_
  refine lv_ladd hx hb d_Cu_multiply_159 ?_
  refine lv_topl (fun v29 ev => ?_)
  have hf := bn ev hf
  clear ev
  refine lv_lstore (lv' := [(43, .long v29), (41, .long v20), (39, .long v19), (37, .long v18), (35, .long v17), (33, .long v16), (31, .long v15), (29, .long v14), (27, .long v13), (25, .long v12), (23, .long v11), (21, .long v10), (19, .long v9), (17, .long v8), (15, .long v7), (13, .long v6), (11, .long v5), (9, .long v4), (7, .long v3), (5, .long v2), (3, .long v1), (0, .ref b0), (1, .ref b1), (2, .ref b1)]) hx hb d_Cu_multiply_160 hl (by decide) rfl (fun ls hl => ?_)
  refine lv_lload hx hb d_Cu_multiply_162 (lv_at hl 18 rfl) ?_
  refine lv_lload hx hb d_Cu_multiply_164 (lv_at hl 1 rfl) ?_
  refine lv_lmul hx hb d_Cu_multiply_166 ?_
  refine lv_topl (fun v30 ev => ?_)
  have hf := bn ev hf
  clear ev
  refine lv_lload hx hb d_Cu_multiply_167 (lv_at hl 17 rfl) ?_
  refine lv_lload hx hb d_Cu_multiply_169 (lv_at hl 2 rfl) ?_
  refine lv_lmul hx hb d_Cu_multiply_171 ?_
  refine lv_ladd hx hb d_Cu_multiply_172 ?_
  refine lv_topl (fun v31 ev => ?_)
  have hf := bn ev hf
  clear ev
  refine lv_lload hx hb d_Cu_multiply_173 (lv_at hl 16 rfl) ?_
  refine lv_lload hx hb d_Cu_multiply_175 (lv_at hl 3 rfl) ?_
  refine lv_lmul hx hb d_Cu_multiply_177 ?_
  refine lv_ladd hx hb d_Cu_multiply_178 ?_
  refine lv_topl (fun v32 ev => ?_)
  have hf := bn ev hf
  clear ev
  refine lv_lload hx hb d_Cu_multiply_179 (lv_at hl 15 rfl) ?_
  refine lv_lload hx hb d_Cu_multiply_181 (lv_at hl 4 rfl) ?_
  refine lv_lmul hx hb d_Cu_multiply_183 ?_
  refine lv_ladd hx hb d_Cu_multiply_184 ?_
  refine lv_topl (fun v33 ev => ?_)
  have hf := bn ev hf
  clear ev
  refine lv_lload hx hb d_Cu_multiply_185 (lv_at hl 14 rfl) ?_
  refine lv_lload hx hb d_Cu_multiply_187 (lv_at hl 5 rfl) ?_
  refine lv_lmul hx hb d_Cu_multiply_189 ?_
  refine lv_ladd hx hb d_Cu_multiply_190 ?_
  refine lv_topl (fun v34 ev => ?_)
  have hf := bn ev hf
  clear ev
  refine lv_lload hx hb d_Cu_multiply_191 (lv_at hl 13 rfl) ?_
  refine lv_lload hx hb d_Cu_multiply_193 (lv_at hl 6 rfl) ?_
  refine lv_lmul hx hb d_Cu_multiply_195 ?_
  refine lv_ladd hx hb d_Cu_multiply_196 ?_
  refine lv_topl (fun v35 ev => ?_)
  have hf := bn ev hf
  clear ev
  refine lv_lload hx hb d_Cu_multiply_197 (lv_at hl 12 rfl) ?_
  refine lv_lload hx hb d_Cu_multiply_199 (lv_at hl 7 rfl) ?_
  refine lv_lmul hx hb d_Cu_multiply_201 ?_
  refine lv_ladd hx hb d_Cu_multiply_202 ?_
  refine lv_topl (fun v36 ev => ?_)
  have hf := bn ev hf
  clear ev
  refine lv_lload hx hb d_Cu_multiply_203 (lv_at hl 11 rfl) ?_
  refine lv_lload hx hb d_Cu_multiply_205 (lv_at hl 8 rfl) ?_
  refine lv_lmul hx hb d_Cu_multiply_207 ?_
  refine lv_ladd hx hb d_Cu_multiply_208 ?_
  refine lv_topl (fun v37 ev => ?_)
  have hf := bn ev hf
  clear ev
  refine lv_lload hx hb d_Cu_multiply_209 (lv_at hl 0 rfl) ?_
  refine lv_bipush (v := 26) hx hb d_Cu_multiply_211 (by decide) ?_
  refine lv_lshr hx hb d_Cu_multiply_213 rfl ?_
  refine lv_ladd hx hb d_Cu_multiply_214 ?_
  refine lv_topl (fun v38 ev => ?_)
  have hf := bn ev hf
  clear ev
  refine lv_lstore (lv' := [(45, .long v38), (43, .long v29), (41, .long v20), (39, .long v19), (37, .long v18), (35, .long v17), (33, .long v16), (31, .long v15), (29, .long v14), (27, .long v13), (25, .long v12), (23, .long v11), (21, .long v10), (19, .long v9), (17, .long v8), (15, .long v7), (13, .long v6), (11, .long v5), (9, .long v4), (7, .long v3), (5, .long v2), (3, .long v1), (0, .ref b0), (1, .ref b1), (2, .ref b1)]) hx hb d_Cu_multiply_215 hl (by decide) rfl (fun ls hl => ?_)
  refine lv_lload hx hb d_Cu_multiply_217 (lv_at hl 18 rfl) ?_
  refine lv_lload hx hb d_Cu_multiply_219 (lv_at hl 2 rfl) ?_
  refine lv_lmul hx hb d_Cu_multiply_221 ?_
  refine lv_topl (fun v39 ev => ?_)
  have hf := bn ev hf
  clear ev
  refine lv_lload hx hb d_Cu_multiply_222 (lv_at hl 17 rfl) ?_
  refine lv_lload hx hb d_Cu_multiply_224 (lv_at hl 3 rfl) ?_
  refine lv_lmul hx hb d_Cu_multiply_226 ?_
  refine lv_ladd hx hb d_Cu_multiply_227 ?_
  refine lv_topl (fun v40 ev => ?_)
  have hf := bn ev hf
  clear ev
  refine lv_lload hx hb d_Cu_multiply_228 (lv_at hl 16 rfl) ?_
  refine lv_lload hx hb d_Cu_multiply_230 (lv_at hl 4 rfl) ?_
  refine lv_lmul hx hb d_Cu_multiply_232 ?_
  refine lv_ladd hx hb d_Cu_multiply_233 ?_
  refine lv_topl (fun v41 ev => ?_)
  have hf := bn ev hf
  clear ev
  refine lv_lload hx hb d_Cu_multiply_234 (lv_at hl 15 rfl) ?_
  refine lv_lload hx hb d_Cu_multiply_236 (lv_at hl 5 rfl) ?_
  refine lv_lmul hx hb d_Cu_multiply_238 ?_
  refine lv_ladd hx hb d_Cu_multiply_239 ?_
  refine lv_topl (fun v42 ev => ?_)
  have hf := bn ev hf
  clear ev
  refine lv_lload hx hb d_Cu_multiply_240 (lv_at hl 14 rfl) ?_
  refine lv_lload hx hb d_Cu_multiply_242 (lv_at hl 6 rfl) ?_
  refine lv_lmul hx hb d_Cu_multiply_244 ?_
  refine lv_ladd hx hb d_Cu_multiply_245 ?_
  refine lv_topl (fun v43 ev => ?_)
  have hf := bn ev hf
  clear ev
  refine lv_lload hx hb d_Cu_multiply_246 (lv_at hl 13 rfl) ?_
  refine lv_lload hx hb d_Cu_multiply_248 (lv_at hl 7 rfl) ?_
  refine lv_lmul hx hb d_Cu_multiply_250 ?_
  refine lv_ladd hx hb d_Cu_multiply_251 ?_
  refine lv_topl (fun v44 ev => ?_)
  have hf := bn ev hf
  clear ev
  refine lv_lload hx hb d_Cu_multiply_252 (lv_at hl 12 rfl) ?_
  refine lv_lload hx hb d_Cu_multiply_254 (lv_at hl 8 rfl) ?_
  refine lv_lmul hx hb d_Cu_multiply_256 ?_
  refine lv_ladd hx hb d_Cu_multiply_257 ?_
  refine lv_topl (fun v45 ev => ?_)
  have hf := bn ev hf
  clear ev
  refine lv_lload hx hb d_Cu_multiply_258 (lv_at hl 0 rfl) ?_
  refine lv_bipush (v := 26) hx hb d_Cu_multiply_260 (by decide) ?_
  refine lv_lshr hx hb d_Cu_multiply_262 rfl ?_
  refine lv_ladd hx hb d_Cu_multiply_263 ?_
  refine lv_topl (fun v46 ev => ?_)
  have hf := bn ev hf
  clear ev
  refine lv_lstore (lv' := [(47, .long v46), (45, .long v38), (43, .long v29), (41, .long v20), (39, .long v19), (37, .long v18), (35, .long v17), (33, .long v16), (31, .long v15), (29, .long v14), (27, .long v13), (25, .long v12), (23, .long v11), (21, .long v10), (19, .long v9), (17, .long v8), (15, .long v7), (13, .long v6), (11, .long v5), (9, .long v4), (7, .long v3), (5, .long v2), (3, .long v1), (0, .ref b0), (1, .ref b1), (2, .ref b1)]) hx hb d_Cu_multiply_264 hl (by decide) rfl (fun ls hl => ?_)
  refine lv_lload hx hb d_Cu_multiply_266 (lv_at hl 18 rfl) ?_
  refine lv_lload hx hb d_Cu_multiply_268 (lv_at hl 3 rfl) ?_
  refine lv_lmul hx hb d_Cu_multiply_270 ?_
  refine lv_topl (fun v47 ev => ?_)
  have hf := bn ev hf
  clear ev
  refine lv_lload hx hb d_Cu_multiply_271 (lv_at hl 17 rfl) ?_
  refine lv_lload hx hb d_Cu_multiply_273 (lv_at hl 4 rfl) ?_
  refine lv_lmul hx hb d_Cu_multiply_275 ?_
  refine lv_ladd hx hb d_Cu_multiply_276 ?_
  refine lv_topl (fun v48 ev => ?_)
  have hf := bn ev hf
  clear ev
  refine lv_lload hx hb d_Cu_multiply_277 (lv_at hl 16 rfl) ?_
  refine lv_lload hx hb d_Cu_multiply_279 (lv_at hl 5 rfl) ?_
  refine lv_lmul hx hb d_Cu_multiply_281 ?_
  refine lv_ladd hx hb d_Cu_multiply_282 ?_
  refine lv_topl (fun v49 ev => ?_)
  have hf := bn ev hf
  clear ev
  refine lv_lload hx hb d_Cu_multiply_283 (lv_at hl 15 rfl) ?_
  refine lv_lload hx hb d_Cu_multiply_285 (lv_at hl 6 rfl) ?_
  refine lv_lmul hx hb d_Cu_multiply_287 ?_
  refine lv_ladd hx hb d_Cu_multiply_288 ?_
  refine lv_topl (fun v50 ev => ?_)
  have hf := bn ev hf
  clear ev
  refine lv_lload hx hb d_Cu_multiply_289 (lv_at hl 14 rfl) ?_
  refine lv_lload hx hb d_Cu_multiply_291 (lv_at hl 7 rfl) ?_
  refine lv_lmul hx hb d_Cu_multiply_293 ?_
  refine lv_ladd hx hb d_Cu_multiply_294 ?_
  refine lv_topl (fun v51 ev => ?_)
  have hf := bn ev hf
  clear ev
  refine lv_lload hx hb d_Cu_multiply_295 (lv_at hl 13 rfl) ?_
  refine lv_lload hx hb d_Cu_multiply_297 (lv_at hl 8 rfl) ?_
  refine lv_lmul hx hb d_Cu_multiply_299 ?_
  refine lv_ladd hx hb d_Cu_multiply_300 ?_
  refine lv_topl (fun v52 ev => ?_)
  have hf := bn ev hf
  clear ev
  refine lv_lload hx hb d_Cu_multiply_301 (lv_at hl 0 rfl) ?_
  refine lv_bipush (v := 26) hx hb d_Cu_multiply_303 (by decide) ?_
  refine lv_lshr hx hb d_Cu_multiply_305 rfl ?_
  refine lv_ladd hx hb d_Cu_multiply_306 ?_
  refine lv_topl (fun v53 ev => ?_)
  have hf := bn ev hf
  clear ev
  refine lv_lstore (lv' := [(49, .long v53), (47, .long v46), (45, .long v38), (43, .long v29), (41, .long v20), (39, .long v19), (37, .long v18), (35, .long v17), (33, .long v16), (31, .long v15), (29, .long v14), (27, .long v13), (25, .long v12), (23, .long v11), (21, .long v10), (19, .long v9), (17, .long v8), (15, .long v7), (13, .long v6), (11, .long v5), (9, .long v4), (7, .long v3), (5, .long v2), (3, .long v1), (0, .ref b0), (1, .ref b1), (2, .ref b1)]) hx hb d_Cu_multiply_307 hl (by decide) rfl (fun ls hl => ?_)
  refine lv_lload hx hb d_Cu_multiply_309 (lv_at hl 18 rfl) ?_
  refine lv_lload hx hb d_Cu_multiply_311 (lv_at hl 4 rfl) ?_
  refine lv_lmul hx hb d_Cu_multiply_313 ?_
  refine lv_topl (fun v54 ev => ?_)
  have hf := bn ev hf
  clear ev
  refine lv_lload hx hb d_Cu_multiply_314 (lv_at hl 17 rfl) ?_
  refine lv_lload hx hb d_Cu_multiply_316 (lv_at hl 5 rfl) ?_
  refine lv_lmul hx hb d_Cu_multiply_318 ?_
  refine lv_ladd hx hb d_Cu_multiply_319 ?_
  refine lv_topl (fun v55 ev => ?_)
  have hf := bn ev hf
  clear ev
  refine lv_lload hx hb d_Cu_multiply_320 (lv_at hl 16 rfl) ?_
  refine lv_lload hx hb d_Cu_multiply_322 (lv_at hl 6 rfl) ?_
  refine lv_lmul hx hb d_Cu_multiply_324 ?_
  refine lv_ladd hx hb d_Cu_multiply_325 ?_
  refine lv_topl (fun v56 ev => ?_)
  have hf := bn ev hf
  clear ev
  refine lv_lload hx hb d_Cu_multiply_326 (lv_at hl 15 rfl) ?_
  refine lv_lload hx hb d_Cu_multiply_328 (lv_at hl 7 rfl) ?_
  refine lv_lmul hx hb d_Cu_multiply_330 ?_
  refine lv_ladd hx hb d_Cu_multiply_331 ?_
  refine lv_topl (fun v57 ev => ?_)
  have hf := bn ev hf
  clear ev
  refine lv_lload hx hb d_Cu_multiply_332 (lv_at hl 14 rfl) ?_
  refine lv_lload hx hb d_Cu_multiply_334 (lv_at hl 8 rfl) ?_
  refine lv_lmul hx hb d_Cu_multiply_336 ?_
  refine lv_ladd hx hb d_Cu_multiply_337 ?_
  refine lv_topl (fun v58 ev => ?_)
  have hf := bn ev hf
  clear ev
  refine lv_lload hx hb d_Cu_multiply_338 (lv_at hl 0 rfl) ?_
  refine lv_bipush (v := 26) hx hb d_Cu_multiply_340 (by decide) ?_
  refine lv_lshr hx hb d_Cu_multiply_342 rfl ?_
  refine lv_ladd hx hb d_Cu_multiply_343 ?_
  refine lv_topl (fun v59 ev => ?_)
  have hf := bn ev hf
  clear ev
  refine lv_lstore (lv' := [(51, .long v59), (49, .long v53), (47, .long v46), (45, .long v38), (43, .long v29), (41, .long v20), (39, .long v19), (37, .long v18), (35, .long v17), (33, .long v16), (31, .long v15), (29, .long v14), (27, .long v13), (25, .long v12), (23, .long v11), (21, .long v10), (19, .long v9), (17, .long v8), (15, .long v7), (13, .long v6), (11, .long v5), (9, .long v4), (7, .long v3), (5, .long v2), (3, .long v1), (0, .ref b0), (1, .ref b1), (2, .ref b1)]) hx hb d_Cu_multiply_344 hl (by decide) rfl (fun ls hl => ?_)
  refine lv_lload hx hb d_Cu_multiply_346 (lv_at hl 18 rfl) ?_
  refine lv_lload hx hb d_Cu_multiply_348 (lv_at hl 5 rfl) ?_
  refine lv_lmul hx hb d_Cu_multiply_350 ?_
  refine lv_topl (fun v60 ev => ?_)
  have hf := bn ev hf
  clear ev
  refine lv_lload hx hb d_Cu_multiply_351 (lv_at hl 17 rfl) ?_
  refine lv_lload hx hb d_Cu_multiply_353 (lv_at hl 6 rfl) ?_
  refine lv_lmul hx hb d_Cu_multiply_355 ?_
  refine lv_ladd hx hb d_Cu_multiply_356 ?_
  refine lv_topl (fun v61 ev => ?_)
  have hf := bn ev hf
  clear ev
  refine lv_lload hx hb d_Cu_multiply_357 (lv_at hl 16 rfl) ?_
  refine lv_lload hx hb d_Cu_multiply_359 (lv_at hl 7 rfl) ?_
  refine lv_lmul hx hb d_Cu_multiply_361 ?_
  refine lv_ladd hx hb d_Cu_multiply_362 ?_
  refine lv_topl (fun v62 ev => ?_)
  have hf := bn ev hf
  clear ev
  refine lv_lload hx hb d_Cu_multiply_363 (lv_at hl 15 rfl) ?_
  refine lv_lload hx hb d_Cu_multiply_365 (lv_at hl 8 rfl) ?_
  refine lv_lmul hx hb d_Cu_multiply_367 ?_
  refine lv_ladd hx hb d_Cu_multiply_368 ?_
  refine lv_topl (fun v63 ev => ?_)
  have hf := bn ev hf
  clear ev
  refine lv_lload hx hb d_Cu_multiply_369 (lv_at hl 0 rfl) ?_
  refine lv_bipush (v := 26) hx hb d_Cu_multiply_371 (by decide) ?_
  refine lv_lshr hx hb d_Cu_multiply_373 rfl ?_
  refine lv_ladd hx hb d_Cu_multiply_374 ?_
  refine lv_topl (fun v64 ev => ?_)
  have hf := bn ev hf
  clear ev
  refine lv_lstore (lv' := [(53, .long v64), (51, .long v59), (49, .long v53), (47, .long v46), (45, .long v38), (43, .long v29), (41, .long v20), (39, .long v19), (37, .long v18), (35, .long v17), (33, .long v16), (31, .long v15), (29, .long v14), (27, .long v13), (25, .long v12), (23, .long v11), (21, .long v10), (19, .long v9), (17, .long v8), (15, .long v7), (13, .long v6), (11, .long v5), (9, .long v4), (7, .long v3), (5, .long v2), (3, .long v1), (0, .ref b0), (1, .ref b1), (2, .ref b1)]) hx hb d_Cu_multiply_375 hl (by decide) rfl (fun ls hl => ?_)
  refine lv_lload hx hb d_Cu_multiply_377 (lv_at hl 18 rfl) ?_
  refine lv_lload hx hb d_Cu_multiply_379 (lv_at hl 6 rfl) ?_
  refine lv_lmul hx hb d_Cu_multiply_381 ?_
  refine lv_topl (fun v65 ev => ?_)
  have hf := bn ev hf
  clear ev
  refine lv_lload hx hb d_Cu_multiply_382 (lv_at hl 17 rfl) ?_
  refine lv_lload hx hb d_Cu_multiply_384 (lv_at hl 7 rfl) ?_
  refine lv_lmul hx hb d_Cu_multiply_386 ?_
  refine lv_ladd hx hb d_Cu_multiply_387 ?_
  refine lv_topl (fun v66 ev => ?_)
  have hf := bn ev hf
  clear ev
  refine lv_lload hx hb d_Cu_multiply_388 (lv_at hl 16 rfl) ?_
  refine lv_lload hx hb d_Cu_multiply_390 (lv_at hl 8 rfl) ?_
  refine lv_lmul hx hb d_Cu_multiply_392 ?_
  refine lv_ladd hx hb d_Cu_multiply_393 ?_
  refine lv_topl (fun v67 ev => ?_)
  have hf := bn ev hf
  clear ev
  refine lv_lload hx hb d_Cu_multiply_394 (lv_at hl 0 rfl) ?_
  refine lv_bipush (v := 26) hx hb d_Cu_multiply_396 (by decide) ?_
  refine lv_lshr hx hb d_Cu_multiply_398 rfl ?_
  refine lv_ladd hx hb d_Cu_multiply_399 ?_
  refine lv_topl (fun v68 ev => ?_)
  have hf := bn ev hf
  clear ev
  refine lv_lstore (lv' := [(55, .long v68), (53, .long v64), (51, .long v59), (49, .long v53), (47, .long v46), (45, .long v38), (43, .long v29), (41, .long v20), (39, .long v19), (37, .long v18), (35, .long v17), (33, .long v16), (31, .long v15), (29, .long v14), (27, .long v13), (25, .long v12), (23, .long v11), (21, .long v10), (19, .long v9), (17, .long v8), (15, .long v7), (13, .long v6), (11, .long v5), (9, .long v4), (7, .long v3), (5, .long v2), (3, .long v1), (0, .ref b0), (1, .ref b1), (2, .ref b1)]) hx hb d_Cu_multiply_400 hl (by decide) rfl (fun ls hl => ?_)
  refine lv_lload hx hb d_Cu_multiply_402 (lv_at hl 18 rfl) ?_
  refine lv_lload hx hb d_Cu_multiply_404 (lv_at hl 7 rfl) ?_
  refine lv_lmul hx hb d_Cu_multiply_406 ?_
  refine lv_topl (fun v69 ev => ?_)
  have hf := bn ev hf
  clear ev
  refine lv_lload hx hb d_Cu_multiply_407 (lv_at hl 17 rfl) ?_
  refine lv_lload hx hb d_Cu_multiply_409 (lv_at hl 8 rfl) ?_
  refine lv_lmul hx hb d_Cu_multiply_411 ?_
  refine lv_ladd hx hb d_Cu_multiply_412 ?_
  refine lv_topl (fun v70 ev => ?_)
  have hf := bn ev hf
  clear ev
  refine lv_lload hx hb d_Cu_multiply_413 (lv_at hl 0 rfl) ?_
  refine lv_bipush (v := 26) hx hb d_Cu_multiply_415 (by decide) ?_
  refine lv_lshr hx hb d_Cu_multiply_417 rfl ?_
  refine lv_ladd hx hb d_Cu_multiply_418 ?_
  refine lv_topl (fun v71 ev => ?_)
  have hf := bn ev hf
  clear ev
  refine lv_lstore (lv' := [(57, .long v71), (55, .long v68), (53, .long v64), (51, .long v59), (49, .long v53), (47, .long v46), (45, .long v38), (43, .long v29), (41, .long v20), (39, .long v19), (37, .long v18), (35, .long v17), (33, .long v16), (31, .long v15), (29, .long v14), (27, .long v13), (25, .long v12), (23, .long v11), (21, .long v10), (19, .long v9), (17, .long v8), (15, .long v7), (13, .long v6), (11, .long v5), (9, .long v4), (7, .long v3), (5, .long v2), (3, .long v1), (0, .ref b0), (1, .ref b1), (2, .ref b1)]) hx hb d_Cu_multiply_419 hl (by decide) rfl (fun ls hl => ?_)
  refine lv_lload hx hb d_Cu_multiply_421 (lv_at hl 18 rfl) ?_
  refine lv_lload hx hb d_Cu_multiply_423 (lv_at hl 8 rfl) ?_
  refine lv_lmul hx hb d_Cu_multiply_425 ?_
  refine lv_topl (fun v72 ev => ?_)
  have hf := bn ev hf
  clear ev
  refine lv_lload hx hb d_Cu_multiply_426 (lv_at hl 0 rfl) ?_
  refine lv_bipush (v := 26) hx hb d_Cu_multiply_428 (by decide) ?_
  refine lv_lshr hx hb d_Cu_multiply_430 rfl ?_
  refine lv_ladd hx hb d_Cu_multiply_431 ?_
  refine lv_topl (fun v73 ev => ?_)
  have hf := bn ev hf
  clear ev
  refine lv_lstore (lv' := [(59, .long v73), (57, .long v71), (55, .long v68), (53, .long v64), (51, .long v59), (49, .long v53), (47, .long v46), (45, .long v38), (43, .long v29), (41, .long v20), (39, .long v19), (37, .long v18), (35, .long v17), (33, .long v16), (31, .long v15), (29, .long v14), (27, .long v13), (25, .long v12), (23, .long v11), (21, .long v10), (19, .long v9), (17, .long v8), (15, .long v7), (13, .long v6), (11, .long v5), (9, .long v4), (7, .long v3), (5, .long v2), (3, .long v1), (0, .ref b0), (1, .ref b1), (2, .ref b1)]) hx hb d_Cu_multiply_432 hl (by decide) rfl (fun ls hl => ?_)
  refine lv_lload hx hb d_Cu_multiply_434 (lv_at hl 0 rfl) ?_
  refine lv_bipush (v := 26) hx hb d_Cu_multiply_436 (by decide) ?_
  refine lv_lshr hx hb d_Cu_multiply_438 rfl ?_
  refine lv_topl (fun v74 ev => ?_)
  have hf := bn ev hf
  clear ev
  refine lv_lstore (lv' := [(61, .long v74), (59, .long v73), (57, .long v71), (55, .long v68), (53, .long v64), (51, .long v59), (49, .long v53), (47, .long v46), (45, .long v38), (43, .long v29), (41, .long v20), (39, .long v19), (37, .long v18), (35, .long v17), (33, .long v16), (31, .long v15), (29, .long v14), (27, .long v13), (25, .long v12), (23, .long v11), (21, .long v10), (19, .long v9), (17, .long v8), (15, .long v7), (13, .long v6), (11, .long v5), (9, .long v4), (7, .long v3), (5, .long v2), (3, .long v1), (0, .ref b0), (1, .ref b1), (2, .ref b1)]) hx hb d_Cu_multiply_439 hl (by decide) rfl (fun ls hl => ?_)
  refine lv_lload hx hb d_Cu_multiply_441 (lv_at hl 9 rfl) ?_
  refine lv_ldc2 (v := 67108863) hx hb hown (hts _ gw_1075) d_Cu_multiply_443 ?_
  refine lv_land hx hb d_Cu_multiply_446 ?_
  refine lv_topl (fun v75 ev => ?_)
  have hf := bn ev hf
  clear ev
  refine lv_lstore (lv' := [(43, .long v75), (61, .long v74), (59, .long v73), (57, .long v71), (55, .long v68), (53, .long v64), (51, .long v59), (49, .long v53), (47, .long v46), (45, .long v38), (41, .long v20), (39, .long v19), (37, .long v18), (35, .long v17), (33, .long v16), (31, .long v15), (29, .long v14), (27, .long v13), (25, .long v12), (23, .long v11), (21, .long v10), (19, .long v9), (17, .long v8), (15, .long v7), (13, .long v6), (11, .long v5), (9, .long v4), (7, .long v3), (5, .long v2), (3, .long v1), (0, .ref b0), (1, .ref b1), (2, .ref b1)]) hx hb d_Cu_multiply_447 hl (by decide) rfl (fun ls hl => ?_)
  refine lv_lload hx hb d_Cu_multiply_449 (lv_at hl 9 rfl) ?_
  refine lv_ldc2 (v := 67108863) hx hb hown (hts _ gw_1075) d_Cu_multiply_451 ?_
  refine lv_land hx hb d_Cu_multiply_454 ?_
  refine lv_topl (fun v76 ev => ?_)
  have hf := bn ev hf
  clear ev
  refine lv_lstore (lv' := [(45, .long v76), (43, .long v75), (61, .long v74), (59, .long v73), (57, .long v71), (55, .long v68), (53, .long v64), (51, .long v59), (49, .long v53), (47, .long v46), (41, .long v20), (39, .long v19), (37, .long v18), (35, .long v17), (33, .long v16), (31, .long v15), (29, .long v14), (27, .long v13), (25, .long v12), (23, .long v11), (21, .long v10), (19, .long v9), (17, .long v8), (15, .long v7), (13, .long v6), (11, .long v5), (9, .long v4), (7, .long v3), (5, .long v2), (3, .long v1), (0, .ref b0), (1, .ref b1), (2, .ref b1)]) hx hb d_Cu_multiply_455 hl (by decide) rfl (fun ls hl => ?_)
  refine lv_lload hx hb d_Cu_multiply_457 (lv_at hl 9 rfl) ?_
  refine lv_ldc2 (v := 67108863) hx hb hown (hts _ gw_1075) d_Cu_multiply_459 ?_
  refine lv_land hx hb d_Cu_multiply_462 ?_
  refine lv_topl (fun v77 ev => ?_)
  have hf := bn ev hf
  clear ev
  refine lv_lstore (lv' := [(47, .long v77), (45, .long v76), (43, .long v75), (61, .long v74), (59, .long v73), (57, .long v71), (55, .long v68), (53, .long v64), (51, .long v59), (49, .long v53), (41, .long v20), (39, .long v19), (37, .long v18), (35, .long v17), (33, .long v16), (31, .long v15), (29, .long v14), (27, .long v13), (25, .long v12), (23, .long v11), (21, .long v10), (19, .long v9), (17, .long v8), (15, .long v7), (13, .long v6), (11, .long v5), (9, .long v4), (7, .long v3), (5, .long v2), (3, .long v1), (0, .ref b0), (1, .ref b1), (2, .ref b1)]) hx hb d_Cu_multiply_463 hl (by decide) rfl (fun ls hl => ?_)
  refine lv_lload hx hb d_Cu_multiply_465 (lv_at hl 9 rfl) ?_
  refine lv_ldc2 (v := 67108863) hx hb hown (hts _ gw_1075) d_Cu_multiply_467 ?_
  refine lv_land hx hb d_Cu_multiply_470 ?_
  refine lv_topl (fun v78 ev => ?_)
  have hf := bn ev hf
  clear ev
  refine lv_lstore (lv' := [(49, .long v78), (47, .long v77), (45, .long v76), (43, .long v75), (61, .long v74), (59, .long v73), (57, .long v71), (55, .long v68), (53, .long v64), (51, .long v59), (41, .long v20), (39, .long v19), (37, .long v18), (35, .long v17), (33, .long v16), (31, .long v15), (29, .long v14), (27, .long v13), (25, .long v12), (23, .long v11), (21, .long v10), (19, .long v9), (17, .long v8), (15, .long v7), (13, .long v6), (11, .long v5), (9, .long v4), (7, .long v3), (5, .long v2), (3, .long v1), (0, .ref b0), (1, .ref b1), (2, .ref b1)]) hx hb d_Cu_multiply_471 hl (by decide) rfl (fun ls hl => ?_)
  refine lv_lload hx hb d_Cu_multiply_473 (lv_at hl 9 rfl) ?_
  refine lv_ldc2 (v := 67108863) hx hb hown (hts _ gw_1075) d_Cu_multiply_475 ?_
  refine lv_land hx hb d_Cu_multiply_478 ?_
  refine lv_topl (fun v79 ev => ?_)
  have hf := bn ev hf
  clear ev
  refine lv_lstore (lv' := [(51, .long v79), (49, .long v78), (47, .long v77), (45, .long v76), (43, .long v75), (61, .long v74), (59, .long v73), (57, .long v71), (55, .long v68), (53, .long v64), (41, .long v20), (39, .long v19), (37, .long v18), (35, .long v17), (33, .long v16), (31, .long v15), (29, .long v14), (27, .long v13), (25, .long v12), (23, .long v11), (21, .long v10), (19, .long v9), (17, .long v8), (15, .long v7), (13, .long v6), (11, .long v5), (9, .long v4), (7, .long v3), (5, .long v2), (3, .long v1), (0, .ref b0), (1, .ref b1), (2, .ref b1)]) hx hb d_Cu_multiply_479 hl (by decide) rfl (fun ls hl => ?_)
  refine lv_lload hx hb d_Cu_multiply_481 (lv_at hl 9 rfl) ?_
  refine lv_ldc2 (v := 67108863) hx hb hown (hts _ gw_1075) d_Cu_multiply_483 ?_
  refine lv_land hx hb d_Cu_multiply_486 ?_
  refine lv_topl (fun v80 ev => ?_)
  have hf := bn ev hf
  clear ev
  refine lv_lstore (lv' := [(53, .long v80), (51, .long v79), (49, .long v78), (47, .long v77), (45, .long v76), (43, .long v75), (61, .long v74), (59, .long v73), (57, .long v71), (55, .long v68), (41, .long v20), (39, .long v19), (37, .long v18), (35, .long v17), (33, .long v16), (31, .long v15), (29, .long v14), (27, .long v13), (25, .long v12), (23, .long v11), (21, .long v10), (19, .long v9), (17, .long v8), (15, .long v7), (13, .long v6), (11, .long v5), (9, .long v4), (7, .long v3), (5, .long v2), (3, .long v1), (0, .ref b0), (1, .ref b1), (2, .ref b1)]) hx hb d_Cu_multiply_487 hl (by decide) rfl (fun ls hl => ?_)
  refine lv_lload hx hb d_Cu_multiply_489 (lv_at hl 9 rfl) ?_
  refine lv_ldc2 (v := 67108863) hx hb hown (hts _ gw_1075) d_Cu_multiply_491 ?_
  refine lv_land hx hb d_Cu_multiply_494 ?_
  refine lv_topl (fun v81 ev => ?_)
  have hf := bn ev hf
  clear ev
  refine lv_lstore (lv' := [(55, .long v81), (53, .long v80), (51, .long v79), (49, .long v78), (47, .long v77), (45, .long v76), (43, .long v75), (61, .long v74), (59, .long v73), (57, .long v71), (41, .long v20), (39, .long v19), (37, .long v18), (35, .long v17), (33, .long v16), (31, .long v15), (29, .long v14), (27, .long v13), (25, .long v12), (23, .long v11), (21, .long v10), (19, .long v9), (17, .long v8), (15, .long v7), (13, .long v6), (11, .long v5), (9, .long v4), (7, .long v3), (5, .long v2), (3, .long v1), (0, .ref b0), (1, .ref b1), (2, .ref b1)]) hx hb d_Cu_multiply_495 hl (by decide) rfl (fun ls hl => ?_)
  refine lv_lload hx hb d_Cu_multiply_497 (lv_at hl 9 rfl) ?_
  refine lv_ldc2 (v := 67108863) hx hb hown (hts _ gw_1075) d_Cu_multiply_499 ?_
  refine lv_land hx hb d_Cu_multiply_502 ?_
  refine lv_topl (fun v82 ev => ?_)
  have hf := bn ev hf
  clear ev
  refine lv_lstore (lv' := [(57, .long v82), (55, .long v81), (53, .long v80), (51, .long v79), (49, .long v78), (47, .long v77), (45, .long v76), (43, .long v75), (61, .long v74), (59, .long v73), (41, .long v20), (39, .long v19), (37, .long v18), (35, .long v17), (33, .long v16), (31, .long v15), (29, .long v14), (27, .long v13), (25, .long v12), (23, .long v11), (21, .long v10), (19, .long v9), (17, .long v8), (15, .long v7), (13, .long v6), (11, .long v5), (9, .long v4), (7, .long v3), (5, .long v2), (3, .long v1), (0, .ref b0), (1, .ref b1), (2, .ref b1)]) hx hb d_Cu_multiply_503 hl (by decide) rfl (fun ls hl => ?_)
  refine lv_lload hx hb d_Cu_multiply_505 (lv_at hl 9 rfl) ?_
  refine lv_ldc2 (v := 67108863) hx hb hown (hts _ gw_1075) d_Cu_multiply_507 ?_
  refine lv_land hx hb d_Cu_multiply_510 ?_
  refine lv_topl (fun v83 ev => ?_)
  have hf := bn ev hf
  clear ev
  refine lv_lstore (lv' := [(59, .long v83), (57, .long v82), (55, .long v81), (53, .long v80), (51, .long v79), (49, .long v78), (47, .long v77), (45, .long v76), (43, .long v75), (61, .long v74), (41, .long v20), (39, .long v19), (37, .long v18), (35, .long v17), (33, .long v16), (31, .long v15), (29, .long v14), (27, .long v13), (25, .long v12), (23, .long v11), (21, .long v10), (19, .long v9), (17, .long v8), (15, .long v7), (13, .long v6), (11, .long v5), (9, .long v4), (7, .long v3), (5, .long v2), (3, .long v1), (0, .ref b0), (1, .ref b1), (2, .ref b1)]) hx hb d_Cu_multiply_511 hl (by decide) rfl (fun ls hl => ?_)
  refine lv_aload_n hx hb d_Cu_multiply_513 rfl (lv_at hl 32 rfl) ?_
  refine lv_iconst (v := 0) hx hb d_Cu_multiply_514 (by decide) ?_
  refine lv_lload_n hx hb d_Cu_multiply_515 rfl (lv_at hl 29 rfl) ?_
  refine lv_lload hx hb d_Cu_multiply_516 (lv_at hl 19 rfl) ?_
  refine lv_lmul hx hb d_Cu_multiply_518 ?_
  refine lv_topl (fun v84 ev => ?_)
  have hf := bn ev hf
  clear ev
  refine lv_lload hx hb d_Cu_multiply_519 (lv_at hl 8 rfl) ?_
  refine lv_ldc2 (v := 15632) hx hb hown (hts _ gw_1079) d_Cu_multiply_521 ?_
  refine lv_lmul hx hb d_Cu_multiply_524 ?_
  refine lv_ladd hx hb d_Cu_multiply_525 ?_
  refine lv_topl (fun v85 ev => ?_)
  have hf := bn ev hf
  clear ev
  refine lv_lload hx hb d_Cu_multiply_526 (lv_at hl 9 rfl) ?_
  refine lv_ldc2 (v := 16007168) hx hb hown (hts _ gw_1080) d_Cu_multiply_528 ?_
  refine lv_lmul hx hb d_Cu_multiply_531 ?_
  refine lv_ladd hx hb d_Cu_multiply_532 ?_
  refine lv_topl (fun v86 ev => ?_)
  have hf := bn ev hf
  clear ev
  refine va_last hx hb hK hP hD hS 1 2 rfl rfl (inb_in (by decide)) d_Cu_multiply_533 (fun H locs hP hD hS => ?_)
  obtain ⟨f87, ev, hf⟩ := bne hf
  have hP : va_P D classes [(b0, .inl (cy 2, 10, .inr (.inl h0))), (b1, .inl (cy 2, 10, .inr (.inl f87)))] H := by rw [ev]; exact hP
  have hD : va_D A [(b0, .inl (cy 2, 10, .inr (.inl h0))), (b1, .inl (cy 2, 10, .inr (.inl f87)))] := by rw [ev]; exact hD
  clear ev
  refine lv_aload_n hx hb d_Cu_multiply_534 rfl (lv_at hl 32 rfl) ?_
  refine lv_iconst (v := 1) hx hb d_Cu_multiply_535 (by decide) ?_
  refine lv_lload_n hx hb d_Cu_multiply_536 rfl (lv_at hl 29 rfl) ?_
  refine lv_lload hx hb d_Cu_multiply_537 (lv_at hl 18 rfl) ?_
  refine lv_lmul hx hb d_Cu_multiply_539 ?_
  refine lv_topl (fun v88 ev => ?_)
  have hf := bn ev hf
  clear ev
  refine lv_lload hx hb d_Cu_multiply_540 (lv_at hl 28 rfl) ?_
  refine lv_lload hx hb d_Cu_multiply_542 (lv_at hl 19 rfl) ?_
  refine lv_lmul hx hb d_Cu_multiply_544 ?_
  refine lv_ladd hx hb d_Cu_multiply_545 ?_
  refine lv_topl (fun v89 ev => ?_)
  have hf := bn ev hf
  clear ev
  refine lv_lload hx hb d_Cu_multiply_546 (lv_at hl 7 rfl) ?_
  refine lv_ldc2 (v := 15632) hx hb hown (hts _ gw_1079) d_Cu_multiply_548 ?_
  refine lv_lmul hx hb d_Cu_multiply_551 ?_
  refine lv_ladd hx hb d_Cu_multiply_552 ?_
  refine lv_topl (fun v90 ev => ?_)
  have hf := bn ev hf
  clear ev
  refine lv_lload hx hb d_Cu_multiply_553 (lv_at hl 8 rfl) ?_
  refine lv_ldc2 (v := 1024) hx hb hown (hts _ gw_1081) d_Cu_multiply_555 ?_
  refine lv_lmul hx hb d_Cu_multiply_558 ?_
  refine lv_ladd hx hb d_Cu_multiply_559 ?_
  refine lv_topl (fun v91 ev => ?_)
  have hf := bn ev hf
  clear ev
  refine lv_lload hx hb d_Cu_multiply_560 (lv_at hl 9 rfl) ?_
  refine lv_ldc2 (v := 1048576) hx hb hown (hts _ gw_1082) d_Cu_multiply_562 ?_
  refine lv_lmul hx hb d_Cu_multiply_565 ?_
  refine lv_ladd hx hb d_Cu_multiply_566 ?_
  refine lv_topl (fun v92 ev => ?_)
  have hf := bn ev hf
  clear ev
  refine va_last hx hb hK hP hD hS 1 2 rfl rfl (inb_in (by decide)) d_Cu_multiply_567 (fun H locs hP hD hS => ?_)
  obtain ⟨f93, ev, hf⟩ := bne hf
  have hP : va_P D classes [(b0, .inl (cy 2, 10, .inr (.inl h0))), (b1, .inl (cy 2, 10, .inr (.inl f93)))] H := by rw [ev]; exact hP
  have hD : va_D A [(b0, .inl (cy 2, 10, .inr (.inl h0))), (b1, .inl (cy 2, 10, .inr (.inl f93)))] := by rw [ev]; exact hD
  clear ev
  refine lv_aload_n hx hb d_Cu_multiply_568 rfl (lv_at hl 32 rfl) ?_
  refine lv_iconst (v := 2) hx hb d_Cu_multiply_569 (by decide) ?_
  refine lv_lload_n hx hb d_Cu_multiply_570 rfl (lv_at hl 29 rfl) ?_
  refine lv_lload hx hb d_Cu_multiply_571 (lv_at hl 17 rfl) ?_
  refine lv_lmul hx hb d_Cu_multiply_573 ?_
  refine lv_topl (fun v94 ev => ?_)
  have hf := bn ev hf
  clear ev
  refine lv_lload hx hb d_Cu_multiply_574 (lv_at hl 28 rfl) ?_
  refine lv_lload hx hb d_Cu_multiply_576 (lv_at hl 18 rfl) ?_
  refine lv_lmul hx hb d_Cu_multiply_578 ?_
  refine lv_ladd hx hb d_Cu_multiply_579 ?_
  refine lv_topl (fun v95 ev => ?_)
  have hf := bn ev hf
  clear ev
  refine lv_lload hx hb d_Cu_multiply_580 (lv_at hl 27 rfl) ?_
  refine lv_lload hx hb d_Cu_multiply_582 (lv_at hl 19 rfl) ?_
  refine lv_lmul hx hb d_Cu_multiply_584 ?_
  refine lv_ladd hx hb d_Cu_multiply_585 ?_
  refine lv_topl (fun v96 ev => ?_)
  have hf := bn ev hf
  clear ev
  refine lv_lload hx hb d_Cu_multiply_586 (lv_at hl 6 rfl) ?_
  refine lv_ldc2 (v := 15632) hx hb hown (hts _ gw_1079) d_Cu_multiply_588 ?_
  refine lv_lmul hx hb d_Cu_multiply_591 ?_
  refine lv_ladd hx hb d_Cu_multiply_592 ?_
  refine lv_topl (fun v97 ev => ?_)
  have hf := bn ev hf
  clear ev
  refine lv_lload hx hb d_Cu_multiply_593 (lv_at hl 7 rfl) ?_
  refine lv_ldc2 (v := 1024) hx hb hown (hts _ gw_1081) d_Cu_multiply_595 ?_
  refine lv_lmul hx hb d_Cu_multiply_598 ?_
  refine lv_ladd hx hb d_Cu_multiply_599 ?_
  refine lv_topl (fun v98 ev => ?_)
  have hf := bn ev hf
  clear ev
  refine va_last hx hb hK hP hD hS 1 2 rfl rfl (inb_in (by decide)) d_Cu_multiply_600 (fun H locs hP hD hS => ?_)
  obtain ⟨f99, ev, hf⟩ := bne hf
  have hP : va_P D classes [(b0, .inl (cy 2, 10, .inr (.inl h0))), (b1, .inl (cy 2, 10, .inr (.inl f99)))] H := by rw [ev]; exact hP
  have hD : va_D A [(b0, .inl (cy 2, 10, .inr (.inl h0))), (b1, .inl (cy 2, 10, .inr (.inl f99)))] := by rw [ev]; exact hD
  clear ev
  refine lv_aload_n hx hb d_Cu_multiply_601 rfl (lv_at hl 32 rfl) ?_
  refine lv_iconst (v := 3) hx hb d_Cu_multiply_602 (by decide) ?_
  refine lv_lload_n hx hb d_Cu_multiply_603 rfl (lv_at hl 29 rfl) ?_
  refine lv_lload hx hb d_Cu_multiply_604 (lv_at hl 16 rfl) ?_
  refine lv_lmul hx hb d_Cu_multiply_606 ?_
  refine lv_topl (fun v100 ev => ?_)
  have hf := bn ev hf
  clear ev
  refine lv_lload hx hb d_Cu_multiply_607 (lv_at hl 28 rfl) ?_
  refine lv_lload hx hb d_Cu_multiply_609 (lv_at hl 17 rfl) ?_
  refine lv_lmul hx hb d_Cu_multiply_611 ?_
  refine lv_ladd hx hb d_Cu_multiply_612 ?_
  refine lv_topl (fun v101 ev => ?_)
  have hf := bn ev hf
  clear ev
  refine lv_lload hx hb d_Cu_multiply_613 (lv_at hl 27 rfl) ?_
  refine lv_lload hx hb d_Cu_multiply_615 (lv_at hl 18 rfl) ?_
  refine lv_lmul hx hb d_Cu_multiply_617 ?_
  refine lv_ladd hx hb d_Cu_multiply_618 ?_
  refine lv_topl (fun v102 ev => ?_)
  have hf := bn ev hf
  clear ev
  refine lv_lload hx hb d_Cu_multiply_619 (lv_at hl 26 rfl) ?_
  refine lv_lload hx hb d_Cu_multiply_621 (lv_at hl 19 rfl) ?_
  refine lv_lmul hx hb d_Cu_multiply_623 ?_
  refine lv_ladd hx hb d_Cu_multiply_624 ?_
  refine lv_topl (fun v103 ev => ?_)
  have hf := bn ev hf
  clear ev
  refine lv_lload hx hb d_Cu_multiply_625 (lv_at hl 5 rfl) ?_
  refine lv_ldc2 (v := 15632) hx hb hown (hts _ gw_1079) d_Cu_multiply_627 ?_
  refine lv_lmul hx hb d_Cu_multiply_630 ?_
  refine lv_ladd hx hb d_Cu_multiply_631 ?_
  refine lv_topl (fun v104 ev => ?_)
  have hf := bn ev hf
  clear ev
  refine lv_lload hx hb d_Cu_multiply_632 (lv_at hl 6 rfl) ?_
  refine lv_ldc2 (v := 1024) hx hb hown (hts _ gw_1081) d_Cu_multiply_634 ?_
  refine lv_lmul hx hb d_Cu_multiply_637 ?_
  refine lv_ladd hx hb d_Cu_multiply_638 ?_
  refine lv_topl (fun v105 ev => ?_)
  have hf := bn ev hf
  clear ev
  refine va_last hx hb hK hP hD hS 1 2 rfl rfl (inb_in (by decide)) d_Cu_multiply_639 (fun H locs hP hD hS => ?_)
  obtain ⟨f106, ev, hf⟩ := bne hf
  have hP : va_P D classes [(b0, .inl (cy 2, 10, .inr (.inl h0))), (b1, .inl (cy 2, 10, .inr (.inl f106)))] H := by rw [ev]; exact hP
  have hD : va_D A [(b0, .inl (cy 2, 10, .inr (.inl h0))), (b1, .inl (cy 2, 10, .inr (.inl f106)))] := by rw [ev]; exact hD
  clear ev
  refine lv_aload_n hx hb d_Cu_multiply_640 rfl (lv_at hl 32 rfl) ?_
  refine lv_iconst (v := 4) hx hb d_Cu_multiply_641 (by decide) ?_
  refine lv_lload_n hx hb d_Cu_multiply_642 rfl (lv_at hl 29 rfl) ?_
  refine lv_lload hx hb d_Cu_multiply_643 (lv_at hl 15 rfl) ?_
  refine lv_lmul hx hb d_Cu_multiply_645 ?_
  refine lv_topl (fun v107 ev => ?_)
  have hf := bn ev hf
  clear ev
  refine lv_lload hx hb d_Cu_multiply_646 (lv_at hl 28 rfl) ?_
  refine lv_lload hx hb d_Cu_multiply_648 (lv_at hl 16 rfl) ?_
  refine lv_lmul hx hb d_Cu_multiply_650 ?_
  refine lv_ladd hx hb d_Cu_multiply_651 ?_
  refine lv_topl (fun v108 ev => ?_)
  have hf := bn ev hf
  clear ev
  refine lv_lload hx hb d_Cu_multiply_652 (lv_at hl 27 rfl) ?_
  refine lv_lload hx hb d_Cu_multiply_654 (lv_at hl 17 rfl) ?_
  refine lv_lmul hx hb d_Cu_multiply_656 ?_
  refine lv_ladd hx hb d_Cu_multiply_657 ?_
  refine lv_topl (fun v109 ev => ?_)
  have hf := bn ev hf
  clear ev
  refine lv_lload hx hb d_Cu_multiply_658 (lv_at hl 26 rfl) ?_
  refine lv_lload hx hb d_Cu_multiply_660 (lv_at hl 18 rfl) ?_
  refine lv_lmul hx hb d_Cu_multiply_662 ?_
  refine lv_ladd hx hb d_Cu_multiply_663 ?_
  refine lv_topl (fun v110 ev => ?_)
  have hf := bn ev hf
  clear ev
  refine lv_lload hx hb d_Cu_multiply_664 (lv_at hl 25 rfl) ?_
  refine lv_lload hx hb d_Cu_multiply_666 (lv_at hl 19 rfl) ?_
  refine lv_lmul hx hb d_Cu_multiply_668 ?_
  refine lv_ladd hx hb d_Cu_multiply_669 ?_
  refine lv_topl (fun v111 ev => ?_)
  have hf := bn ev hf
  clear ev
  refine lv_lload hx hb d_Cu_multiply_670 (lv_at hl 4 rfl) ?_
  refine lv_ldc2 (v := 15632) hx hb hown (hts _ gw_1079) d_Cu_multiply_672 ?_
  refine lv_lmul hx hb d_Cu_multiply_675 ?_
  refine lv_ladd hx hb d_Cu_multiply_676 ?_
  refine lv_topl (fun v112 ev => ?_)
  have hf := bn ev hf
  clear ev
  refine lv_lload hx hb d_Cu_multiply_677 (lv_at hl 5 rfl) ?_
  refine lv_ldc2 (v := 1024) hx hb hown (hts _ gw_1081) d_Cu_multiply_679 ?_
  refine lv_lmul hx hb d_Cu_multiply_682 ?_
  refine lv_ladd hx hb d_Cu_multiply_683 ?_
  refine lv_topl (fun v113 ev => ?_)
  have hf := bn ev hf
  clear ev
  refine va_last hx hb hK hP hD hS 1 2 rfl rfl (inb_in (by decide)) d_Cu_multiply_684 (fun H locs hP hD hS => ?_)
  obtain ⟨f114, ev, hf⟩ := bne hf
  have hP : va_P D classes [(b0, .inl (cy 2, 10, .inr (.inl h0))), (b1, .inl (cy 2, 10, .inr (.inl f114)))] H := by rw [ev]; exact hP
  have hD : va_D A [(b0, .inl (cy 2, 10, .inr (.inl h0))), (b1, .inl (cy 2, 10, .inr (.inl f114)))] := by rw [ev]; exact hD
  clear ev
  refine lv_aload_n hx hb d_Cu_multiply_685 rfl (lv_at hl 32 rfl) ?_
  refine lv_iconst (v := 5) hx hb d_Cu_multiply_686 (by decide) ?_
  refine lv_lload_n hx hb d_Cu_multiply_687 rfl (lv_at hl 29 rfl) ?_
  refine lv_lload hx hb d_Cu_multiply_688 (lv_at hl 14 rfl) ?_
  refine lv_lmul hx hb d_Cu_multiply_690 ?_
  refine lv_topl (fun v115 ev => ?_)
  have hf := bn ev hf
  clear ev
  refine lv_lload hx hb d_Cu_multiply_691 (lv_at hl 28 rfl) ?_
  refine lv_lload hx hb d_Cu_multiply_693 (lv_at hl 15 rfl) ?_
  refine lv_lmul hx hb d_Cu_multiply_695 ?_
  refine lv_ladd hx hb d_Cu_multiply_696 ?_
  refine lv_topl (fun v116 ev => ?_)
  have hf := bn ev hf
  clear ev
  refine lv_lload hx hb d_Cu_multiply_697 (lv_at hl 27 rfl) ?_
  refine lv_lload hx hb d_Cu_multiply_699 (lv_at hl 16 rfl) ?_
  refine lv_lmul hx hb d_Cu_multiply_701 ?_
  refine lv_ladd hx hb d_Cu_multiply_702 ?_
  refine lv_topl (fun v117 ev => ?_)
  have hf := bn ev hf
  clear ev
  refine lv_lload hx hb d_Cu_multiply_703 (lv_at hl 26 rfl) ?_
  refine lv_lload hx hb d_Cu_multiply_705 (lv_at hl 17 rfl) ?_
  refine lv_lmul hx hb d_Cu_multiply_707 ?_
  refine lv_ladd hx hb d_Cu_multiply_708 ?_
  refine lv_topl (fun v118 ev => ?_)
  have hf := bn ev hf
  clear ev
  refine lv_lload hx hb d_Cu_multiply_709 (lv_at hl 25 rfl) ?_
  refine lv_lload hx hb d_Cu_multiply_711 (lv_at hl 18 rfl) ?_
  refine lv_lmul hx hb d_Cu_multiply_713 ?_
  refine lv_ladd hx hb d_Cu_multiply_714 ?_
  refine lv_topl (fun v119 ev => ?_)
  have hf := bn ev hf
  clear ev
  refine lv_lload hx hb d_Cu_multiply_715 (lv_at hl 24 rfl) ?_
  refine lv_lload hx hb d_Cu_multiply_717 (lv_at hl 19 rfl) ?_
  refine lv_lmul hx hb d_Cu_multiply_719 ?_
  refine lv_ladd hx hb d_Cu_multiply_720 ?_
  refine lv_topl (fun v120 ev => ?_)
  have hf := bn ev hf
  clear ev
  refine lv_lload hx hb d_Cu_multiply_721 (lv_at hl 3 rfl) ?_
  refine lv_ldc2 (v := 15632) hx hb hown (hts _ gw_1079) d_Cu_multiply_723 ?_
  refine lv_lmul hx hb d_Cu_multiply_726 ?_
  refine lv_ladd hx hb d_Cu_multiply_727 ?_
  refine lv_topl (fun v121 ev => ?_)
  have hf := bn ev hf
  clear ev
  refine lv_lload hx hb d_Cu_multiply_728 (lv_at hl 4 rfl) ?_
  refine lv_ldc2 (v := 1024) hx hb hown (hts _ gw_1081) d_Cu_multiply_730 ?_
  refine lv_lmul hx hb d_Cu_multiply_733 ?_
  refine lv_ladd hx hb d_Cu_multiply_734 ?_
  refine lv_topl (fun v122 ev => ?_)
  have hf := bn ev hf
  clear ev
  refine va_last hx hb hK hP hD hS 1 2 rfl rfl (inb_in (by decide)) d_Cu_multiply_735 (fun H locs hP hD hS => ?_)
  obtain ⟨f123, ev, hf⟩ := bne hf
  have hP : va_P D classes [(b0, .inl (cy 2, 10, .inr (.inl h0))), (b1, .inl (cy 2, 10, .inr (.inl f123)))] H := by rw [ev]; exact hP
  have hD : va_D A [(b0, .inl (cy 2, 10, .inr (.inl h0))), (b1, .inl (cy 2, 10, .inr (.inl f123)))] := by rw [ev]; exact hD
  clear ev
  refine lv_aload_n hx hb d_Cu_multiply_736 rfl (lv_at hl 32 rfl) ?_
  refine lv_bipush (v := 6) hx hb d_Cu_multiply_737 (by decide) ?_
  refine lv_lload_n hx hb d_Cu_multiply_739 rfl (lv_at hl 29 rfl) ?_
  refine lv_lload hx hb d_Cu_multiply_740 (lv_at hl 13 rfl) ?_
  refine lv_lmul hx hb d_Cu_multiply_742 ?_
  refine lv_topl (fun v124 ev => ?_)
  have hf := bn ev hf
  clear ev
  refine lv_lload hx hb d_Cu_multiply_743 (lv_at hl 28 rfl) ?_
  refine lv_lload hx hb d_Cu_multiply_745 (lv_at hl 14 rfl) ?_
  refine lv_lmul hx hb d_Cu_multiply_747 ?_
  refine lv_ladd hx hb d_Cu_multiply_748 ?_
  refine lv_topl (fun v125 ev => ?_)
  have hf := bn ev hf
  clear ev
  refine lv_lload hx hb d_Cu_multiply_749 (lv_at hl 27 rfl) ?_
  refine lv_lload hx hb d_Cu_multiply_751 (lv_at hl 15 rfl) ?_
  refine lv_lmul hx hb d_Cu_multiply_753 ?_
  refine lv_ladd hx hb d_Cu_multiply_754 ?_
  refine lv_topl (fun v126 ev => ?_)
  have hf := bn ev hf
  clear ev
  refine lv_lload hx hb d_Cu_multiply_755 (lv_at hl 26 rfl) ?_
  refine lv_lload hx hb d_Cu_multiply_757 (lv_at hl 16 rfl) ?_
  refine lv_lmul hx hb d_Cu_multiply_759 ?_
  refine lv_ladd hx hb d_Cu_multiply_760 ?_
  refine lv_topl (fun v127 ev => ?_)
  have hf := bn ev hf
  clear ev
  refine lv_lload hx hb d_Cu_multiply_761 (lv_at hl 25 rfl) ?_
  refine lv_lload hx hb d_Cu_multiply_763 (lv_at hl 17 rfl) ?_
  refine lv_lmul hx hb d_Cu_multiply_765 ?_
  refine lv_ladd hx hb d_Cu_multiply_766 ?_
  refine lv_topl (fun v128 ev => ?_)
  have hf := bn ev hf
  clear ev
  refine lv_lload hx hb d_Cu_multiply_767 (lv_at hl 24 rfl) ?_
  refine lv_lload hx hb d_Cu_multiply_769 (lv_at hl 18 rfl) ?_
  refine lv_lmul hx hb d_Cu_multiply_771 ?_
  refine lv_ladd hx hb d_Cu_multiply_772 ?_
  refine lv_topl (fun v129 ev => ?_)
  have hf := bn ev hf
  clear ev
  refine lv_lload hx hb d_Cu_multiply_773 (lv_at hl 23 rfl) ?_
  refine lv_lload hx hb d_Cu_multiply_775 (lv_at hl 19 rfl) ?_
  refine lv_lmul hx hb d_Cu_multiply_777 ?_
  refine lv_ladd hx hb d_Cu_multiply_778 ?_
  refine lv_topl (fun v130 ev => ?_)
  have hf := bn ev hf
  clear ev
  refine lv_lload hx hb d_Cu_multiply_779 (lv_at hl 2 rfl) ?_
  refine lv_ldc2 (v := 15632) hx hb hown (hts _ gw_1079) d_Cu_multiply_781 ?_
  refine lv_lmul hx hb d_Cu_multiply_784 ?_
  refine lv_ladd hx hb d_Cu_multiply_785 ?_
  refine lv_topl (fun v131 ev => ?_)
  have hf := bn ev hf
  clear ev
  refine lv_lload hx hb d_Cu_multiply_786 (lv_at hl 3 rfl) ?_
  refine lv_ldc2 (v := 1024) hx hb hown (hts _ gw_1081) d_Cu_multiply_788 ?_
  refine lv_lmul hx hb d_Cu_multiply_791 ?_
  refine lv_ladd hx hb d_Cu_multiply_792 ?_
  refine lv_topl (fun v132 ev => ?_)
  have hf := bn ev hf
  clear ev
  refine va_last hx hb hK hP hD hS 1 2 rfl rfl (inb_in (by decide)) d_Cu_multiply_793 (fun H locs hP hD hS => ?_)
  obtain ⟨f133, ev, hf⟩ := bne hf
  have hP : va_P D classes [(b0, .inl (cy 2, 10, .inr (.inl h0))), (b1, .inl (cy 2, 10, .inr (.inl f133)))] H := by rw [ev]; exact hP
  have hD : va_D A [(b0, .inl (cy 2, 10, .inr (.inl h0))), (b1, .inl (cy 2, 10, .inr (.inl f133)))] := by rw [ev]; exact hD
  clear ev
  refine lv_aload_n hx hb d_Cu_multiply_794 rfl (lv_at hl 32 rfl) ?_
  refine lv_bipush (v := 7) hx hb d_Cu_multiply_795 (by decide) ?_
  refine lv_lload_n hx hb d_Cu_multiply_797 rfl (lv_at hl 29 rfl) ?_
  refine lv_lload hx hb d_Cu_multiply_798 (lv_at hl 12 rfl) ?_
  refine lv_lmul hx hb d_Cu_multiply_800 ?_
  refine lv_topl (fun v134 ev => ?_)
  have hf := bn ev hf
  clear ev
  refine lv_lload hx hb d_Cu_multiply_801 (lv_at hl 28 rfl) ?_
  refine lv_lload hx hb d_Cu_multiply_803 (lv_at hl 13 rfl) ?_
  refine lv_lmul hx hb d_Cu_multiply_805 ?_
  refine lv_ladd hx hb d_Cu_multiply_806 ?_
  refine lv_topl (fun v135 ev => ?_)
  have hf := bn ev hf
  clear ev
  refine lv_lload hx hb d_Cu_multiply_807 (lv_at hl 27 rfl) ?_
  refine lv_lload hx hb d_Cu_multiply_809 (lv_at hl 14 rfl) ?_
  refine lv_lmul hx hb d_Cu_multiply_811 ?_
  refine lv_ladd hx hb d_Cu_multiply_812 ?_
  refine lv_topl (fun v136 ev => ?_)
  have hf := bn ev hf
  clear ev
  refine lv_lload hx hb d_Cu_multiply_813 (lv_at hl 26 rfl) ?_
  refine lv_lload hx hb d_Cu_multiply_815 (lv_at hl 15 rfl) ?_
  refine lv_lmul hx hb d_Cu_multiply_817 ?_
  refine lv_ladd hx hb d_Cu_multiply_818 ?_
  refine lv_topl (fun v137 ev => ?_)
  have hf := bn ev hf
  clear ev
  refine lv_lload hx hb d_Cu_multiply_819 (lv_at hl 25 rfl) ?_
  refine lv_lload hx hb d_Cu_multiply_821 (lv_at hl 16 rfl) ?_
  refine lv_lmul hx hb d_Cu_multiply_823 ?_
  refine lv_ladd hx hb d_Cu_multiply_824 ?_
  refine lv_topl (fun v138 ev => ?_)
  have hf := bn ev hf
  clear ev
  refine lv_lload hx hb d_Cu_multiply_825 (lv_at hl 24 rfl) ?_
  refine lv_lload hx hb d_Cu_multiply_827 (lv_at hl 17 rfl) ?_
  refine lv_lmul hx hb d_Cu_multiply_829 ?_
  refine lv_ladd hx hb d_Cu_multiply_830 ?_
  refine lv_topl (fun v139 ev => ?_)
  have hf := bn ev hf
  clear ev
  refine lv_lload hx hb d_Cu_multiply_831 (lv_at hl 23 rfl) ?_
  refine lv_lload hx hb d_Cu_multiply_833 (lv_at hl 18 rfl) ?_
  refine lv_lmul hx hb d_Cu_multiply_835 ?_
  refine lv_ladd hx hb d_Cu_multiply_836 ?_
  refine lv_topl (fun v140 ev => ?_)
  have hf := bn ev hf
  clear ev
  refine lv_lload hx hb d_Cu_multiply_837 (lv_at hl 22 rfl) ?_
  refine lv_lload hx hb d_Cu_multiply_839 (lv_at hl 19 rfl) ?_
  refine lv_lmul hx hb d_Cu_multiply_841 ?_
  refine lv_ladd hx hb d_Cu_multiply_842 ?_
  refine lv_topl (fun v141 ev => ?_)
  have hf := bn ev hf
  clear ev
  refine lv_lload hx hb d_Cu_multiply_843 (lv_at hl 1 rfl) ?_
  refine lv_ldc2 (v := 15632) hx hb hown (hts _ gw_1079) d_Cu_multiply_845 ?_
  refine lv_lmul hx hb d_Cu_multiply_848 ?_
  refine lv_ladd hx hb d_Cu_multiply_849 ?_
  refine lv_topl (fun v142 ev => ?_)
  have hf := bn ev hf
  clear ev
  refine lv_lload hx hb d_Cu_multiply_850 (lv_at hl 2 rfl) ?_
  refine lv_ldc2 (v := 1024) hx hb hown (hts _ gw_1081) d_Cu_multiply_852 ?_
  refine lv_lmul hx hb d_Cu_multiply_855 ?_
  refine lv_ladd hx hb d_Cu_multiply_856 ?_
  refine lv_topl (fun v143 ev => ?_)
  have hf := bn ev hf
  clear ev
  refine va_last hx hb hK hP hD hS 1 2 rfl rfl (inb_in (by decide)) d_Cu_multiply_857 (fun H locs hP hD hS => ?_)
  obtain ⟨f144, ev, hf⟩ := bne hf
  have hP : va_P D classes [(b0, .inl (cy 2, 10, .inr (.inl h0))), (b1, .inl (cy 2, 10, .inr (.inl f144)))] H := by rw [ev]; exact hP
  have hD : va_D A [(b0, .inl (cy 2, 10, .inr (.inl h0))), (b1, .inl (cy 2, 10, .inr (.inl f144)))] := by rw [ev]; exact hD
  clear ev
  refine lv_aload_n hx hb d_Cu_multiply_858 rfl (lv_at hl 32 rfl) ?_
  refine lv_bipush (v := 8) hx hb d_Cu_multiply_859 (by decide) ?_
  refine lv_lload_n hx hb d_Cu_multiply_861 rfl (lv_at hl 29 rfl) ?_
  refine lv_lload hx hb d_Cu_multiply_862 (lv_at hl 11 rfl) ?_
  refine lv_lmul hx hb d_Cu_multiply_864 ?_
  refine lv_topl (fun v145 ev => ?_)
  have hf := bn ev hf
  clear ev
  refine lv_lload hx hb d_Cu_multiply_865 (lv_at hl 28 rfl) ?_
  refine lv_lload hx hb d_Cu_multiply_867 (lv_at hl 12 rfl) ?_
  refine lv_lmul hx hb d_Cu_multiply_869 ?_
  refine lv_ladd hx hb d_Cu_multiply_870 ?_
  refine lv_topl (fun v146 ev => ?_)
  have hf := bn ev hf
  clear ev
  refine lv_lload hx hb d_Cu_multiply_871 (lv_at hl 27 rfl) ?_
  refine lv_lload hx hb d_Cu_multiply_873 (lv_at hl 13 rfl) ?_
  refine lv_lmul hx hb d_Cu_multiply_875 ?_
  refine lv_ladd hx hb d_Cu_multiply_876 ?_
  refine lv_topl (fun v147 ev => ?_)
  have hf := bn ev hf
  clear ev
  refine lv_lload hx hb d_Cu_multiply_877 (lv_at hl 26 rfl) ?_
  refine lv_lload hx hb d_Cu_multiply_879 (lv_at hl 14 rfl) ?_
  refine lv_lmul hx hb d_Cu_multiply_881 ?_
  refine lv_ladd hx hb d_Cu_multiply_882 ?_
  refine lv_topl (fun v148 ev => ?_)
  have hf := bn ev hf
  clear ev
  refine lv_lload hx hb d_Cu_multiply_883 (lv_at hl 25 rfl) ?_
  refine lv_lload hx hb d_Cu_multiply_885 (lv_at hl 15 rfl) ?_
  refine lv_lmul hx hb d_Cu_multiply_887 ?_
  refine lv_ladd hx hb d_Cu_multiply_888 ?_
  refine lv_topl (fun v149 ev => ?_)
  have hf := bn ev hf
  clear ev
  refine lv_lload hx hb d_Cu_multiply_889 (lv_at hl 24 rfl) ?_
  refine lv_lload hx hb d_Cu_multiply_891 (lv_at hl 16 rfl) ?_
  refine lv_lmul hx hb d_Cu_multiply_893 ?_
  refine lv_ladd hx hb d_Cu_multiply_894 ?_
  refine lv_topl (fun v150 ev => ?_)
  have hf := bn ev hf
  clear ev
  refine lv_lload hx hb d_Cu_multiply_895 (lv_at hl 23 rfl) ?_
  refine lv_lload hx hb d_Cu_multiply_897 (lv_at hl 17 rfl) ?_
  refine lv_lmul hx hb d_Cu_multiply_899 ?_
  refine lv_ladd hx hb d_Cu_multiply_900 ?_
  refine lv_topl (fun v151 ev => ?_)
  have hf := bn ev hf
  clear ev
  refine lv_lload hx hb d_Cu_multiply_901 (lv_at hl 22 rfl) ?_
  refine lv_lload hx hb d_Cu_multiply_903 (lv_at hl 18 rfl) ?_
  refine lv_lmul hx hb d_Cu_multiply_905 ?_
  refine lv_ladd hx hb d_Cu_multiply_906 ?_
  refine lv_topl (fun v152 ev => ?_)
  have hf := bn ev hf
  clear ev
  refine lv_lload hx hb d_Cu_multiply_907 (lv_at hl 21 rfl) ?_
  refine lv_lload hx hb d_Cu_multiply_909 (lv_at hl 19 rfl) ?_
  refine lv_lmul hx hb d_Cu_multiply_911 ?_
  refine lv_ladd hx hb d_Cu_multiply_912 ?_
  refine lv_topl (fun v153 ev => ?_)
  have hf := bn ev hf
  clear ev
  refine lv_lload hx hb d_Cu_multiply_913 (lv_at hl 0 rfl) ?_
  refine lv_ldc2 (v := 15632) hx hb hown (hts _ gw_1079) d_Cu_multiply_915 ?_
  refine lv_lmul hx hb d_Cu_multiply_918 ?_
  refine lv_ladd hx hb d_Cu_multiply_919 ?_
  refine lv_topl (fun v154 ev => ?_)
  have hf := bn ev hf
  clear ev
  refine lv_lload hx hb d_Cu_multiply_920 (lv_at hl 1 rfl) ?_
  refine lv_ldc2 (v := 1024) hx hb hown (hts _ gw_1081) d_Cu_multiply_922 ?_
  refine lv_lmul hx hb d_Cu_multiply_925 ?_
  refine lv_ladd hx hb d_Cu_multiply_926 ?_
  refine lv_topl (fun v155 ev => ?_)
  have hf := bn ev hf
  clear ev
  refine va_last hx hb hK hP hD hS 1 2 rfl rfl (inb_in (by decide)) d_Cu_multiply_927 (fun H locs hP hD hS => ?_)
  obtain ⟨f156, ev, hf⟩ := bne hf
  have hP : va_P D classes [(b0, .inl (cy 2, 10, .inr (.inl h0))), (b1, .inl (cy 2, 10, .inr (.inl f156)))] H := by rw [ev]; exact hP
  have hD : va_D A [(b0, .inl (cy 2, 10, .inr (.inl h0))), (b1, .inl (cy 2, 10, .inr (.inl f156)))] := by rw [ev]; exact hD
  clear ev
  refine lv_aload_n hx hb d_Cu_multiply_928 rfl (lv_at hl 32 rfl) ?_
  refine lv_bipush (v := 9) hx hb d_Cu_multiply_929 (by decide) ?_
  refine lv_lload_n hx hb d_Cu_multiply_931 rfl (lv_at hl 29 rfl) ?_
  refine lv_lload hx hb d_Cu_multiply_932 (lv_at hl 10 rfl) ?_
  refine lv_lmul hx hb d_Cu_multiply_934 ?_
  refine lv_topl (fun v157 ev => ?_)
  have hf := bn ev hf
  clear ev
  refine lv_lload hx hb d_Cu_multiply_935 (lv_at hl 28 rfl) ?_
  refine lv_lload hx hb d_Cu_multiply_937 (lv_at hl 11 rfl) ?_
  refine lv_lmul hx hb d_Cu_multiply_939 ?_
  refine lv_ladd hx hb d_Cu_multiply_940 ?_
  refine lv_topl (fun v158 ev => ?_)
  have hf := bn ev hf
  clear ev
  refine lv_lload hx hb d_Cu_multiply_941 (lv_at hl 27 rfl) ?_
  refine lv_lload hx hb d_Cu_multiply_943 (lv_at hl 12 rfl) ?_
  refine lv_lmul hx hb d_Cu_multiply_945 ?_
  refine lv_ladd hx hb d_Cu_multiply_946 ?_
  refine lv_topl (fun v159 ev => ?_)
  have hf := bn ev hf
  clear ev
  refine lv_lload hx hb d_Cu_multiply_947 (lv_at hl 26 rfl) ?_
  refine lv_lload hx hb d_Cu_multiply_949 (lv_at hl 13 rfl) ?_
  refine lv_lmul hx hb d_Cu_multiply_951 ?_
  refine lv_ladd hx hb d_Cu_multiply_952 ?_
  refine lv_topl (fun v160 ev => ?_)
  have hf := bn ev hf
  clear ev
  refine lv_lload hx hb d_Cu_multiply_953 (lv_at hl 25 rfl) ?_
  refine lv_lload hx hb d_Cu_multiply_955 (lv_at hl 14 rfl) ?_
  refine lv_lmul hx hb d_Cu_multiply_957 ?_
  refine lv_ladd hx hb d_Cu_multiply_958 ?_
  refine lv_topl (fun v161 ev => ?_)
  have hf := bn ev hf
  clear ev
  refine lv_lload hx hb d_Cu_multiply_959 (lv_at hl 24 rfl) ?_
  refine lv_lload hx hb d_Cu_multiply_961 (lv_at hl 15 rfl) ?_
  refine lv_lmul hx hb d_Cu_multiply_963 ?_
  refine lv_ladd hx hb d_Cu_multiply_964 ?_
  refine lv_topl (fun v162 ev => ?_)
  have hf := bn ev hf
  clear ev
  refine lv_lload hx hb d_Cu_multiply_965 (lv_at hl 23 rfl) ?_
  refine lv_lload hx hb d_Cu_multiply_967 (lv_at hl 16 rfl) ?_
  refine lv_lmul hx hb d_Cu_multiply_969 ?_
  refine lv_ladd hx hb d_Cu_multiply_970 ?_
  refine lv_topl (fun v163 ev => ?_)
  have hf := bn ev hf
  clear ev
  refine lv_lload hx hb d_Cu_multiply_971 (lv_at hl 22 rfl) ?_
  refine lv_lload hx hb d_Cu_multiply_973 (lv_at hl 17 rfl) ?_
  refine lv_lmul hx hb d_Cu_multiply_975 ?_
  refine lv_ladd hx hb d_Cu_multiply_976 ?_
  refine lv_topl (fun v164 ev => ?_)
  have hf := bn ev hf
  clear ev
  refine lv_lload hx hb d_Cu_multiply_977 (lv_at hl 21 rfl) ?_
  refine lv_lload hx hb d_Cu_multiply_979 (lv_at hl 18 rfl) ?_
  refine lv_lmul hx hb d_Cu_multiply_981 ?_
  refine lv_ladd hx hb d_Cu_multiply_982 ?_
  refine lv_topl (fun v165 ev => ?_)
  have hf := bn ev hf
  clear ev
  refine lv_lload hx hb d_Cu_multiply_983 (lv_at hl 20 rfl) ?_
  refine lv_lload hx hb d_Cu_multiply_985 (lv_at hl 19 rfl) ?_
  refine lv_lmul hx hb d_Cu_multiply_987 ?_
  refine lv_ladd hx hb d_Cu_multiply_988 ?_
  refine lv_topl (fun v166 ev => ?_)
  have hf := bn ev hf
  clear ev
  refine lv_lload hx hb d_Cu_multiply_989 (lv_at hl 9 rfl) ?_
  refine lv_ldc2 (v := 15632) hx hb hown (hts _ gw_1079) d_Cu_multiply_991 ?_
  refine lv_lmul hx hb d_Cu_multiply_994 ?_
  refine lv_ladd hx hb d_Cu_multiply_995 ?_
  refine lv_topl (fun v167 ev => ?_)
  have hf := bn ev hf
  clear ev
  refine lv_lload hx hb d_Cu_multiply_996 (lv_at hl 0 rfl) ?_
  refine lv_ldc2 (v := 1024) hx hb hown (hts _ gw_1081) d_Cu_multiply_998 ?_
  refine lv_lmul hx hb d_Cu_multiply_1001 ?_
  refine lv_ladd hx hb d_Cu_multiply_1002 ?_
  refine lv_topl (fun v168 ev => ?_)
  have hf := bn ev hf
  clear ev
  refine va_last hx hb hK hP hD hS 1 2 rfl rfl (inb_in (by decide)) d_Cu_multiply_1003 (fun H locs hP hD hS => ?_)
  obtain ⟨f169, ev, hf⟩ := bne hf
  have hP : va_P D classes [(b0, .inl (cy 2, 10, .inr (.inl h0))), (b1, .inl (cy 2, 10, .inr (.inl f169)))] H := by rw [ev]; exact hP
  have hD : va_D A [(b0, .inl (cy 2, 10, .inr (.inl h0))), (b1, .inl (cy 2, 10, .inr (.inl f169)))] := by rw [ev]; exact hD
  clear ev
  refine lv_iconst (v := 0) hx hb d_Cu_multiply_1004 (by decide) ?_
  refine lv_istore (lv' := [(63, .int (0 : Int32)), (59, .long v83), (57, .long v82), (55, .long v81), (53, .long v80), (51, .long v79), (49, .long v78), (47, .long v77), (45, .long v76), (43, .long v75), (61, .long v74), (41, .long v20), (39, .long v19), (37, .long v18), (35, .long v17), (33, .long v16), (31, .long v15), (29, .long v14), (27, .long v13), (25, .long v12), (23, .long v11), (21, .long v10), (19, .long v9), (17, .long v8), (15, .long v7), (13, .long v6), (11, .long v5), (9, .long v4), (7, .long v3), (5, .long v2), (3, .long v1), (0, .ref b0), (1, .ref b1), (2, .ref b1)]) hx hb d_Cu_multiply_1005 hl (by decide) rfl (fun ls hl => ?_)
  exact w_Cu_multiply_e21_1007 F fu _ _ _ hf _ _ _ hP hD hS (lv_sub hl [33, 0] rfl)
theorem c_Cu_multiply_e21 (l : Launch) (D : va_G) (cy : Nat → ClassId) (ad : Nat → Nat) (fu : Nat) (b0 : Nat) (b1 : Nat) (h0 : Nat → Int64) (u0 : Nat → Int64) (res : (Nat → Int64)) (hf : x_Cu_multiply_e21 fu h0 u0 = some res) (sz : Nat) : Met l ({ cls := "CoinKeeper$Curve", name := "multiply", desc := "([J[J[J)V" } : Jvm.MethodName) (.code ({ cls := "CoinKeeper$Curve", name := "multiply", desc := "([J[J[J)V" } : Jvm.MethodName) b_Cu_multiply 65 none :: gw) rm_Cu_multiply_e21 (va_Pc [.ref b0, .ref b1, .ref b1] (Pr D cy ad [(b0, .inl (cy 2, 10, .inr (.inl h0))), (b1, .inl (cy 2, 10, .inr (.inl u0)))] sz)) (q_Cu_multiply_e21 D cy (va_A [(b0, .inl (cy 2, 10, .inr (.inl h0))), (b1, .inl (cy 2, 10, .inr (.inl u0)))] sz) b0 b1 h0 res) 0 0 (va_A [(b0, .inl (cy 2, 10, .inr (.inl h0))), (b1, .inl (cy 2, 10, .inr (.inl u0)))] sz) :=
  q_met (Qc := fun A => q_Cu_multiply_e21 D cy A b0 b1 h0 res) (by decide) rfl rfl (Nat.le_of_ble_eq_true rfl) (fun p e s m below meth c ls F hP hD hS hl => we_Cu_multiply_e21 (fu := fu) F u0 res hf _ _ _ hP hD hS hl) sz
abbrev rm_Cu_multiply_e10e20 : Room := { frames := 0, cells := 0, slots := 0, locals := 0 }
abbrev q_Cu_multiply_e10e20 (D : va_G) (cy : Nat → ClassId) (A : Nat → Prop) (b0 : Nat) (res : (Nat → Int64)) : Array Value → State → Outcome → State → Prop := va_Qv (fun (_ : Unit) => True) (fun _ t => Po D cy A [(b0, .inl (cy 2, 10, .inr (.inl res)))] t) A
def I_Cu_multiply_e10e20_1007 (p : Program) (l : Launch) (e : Env) (s : State) (m : MethodId) (args : Array Value) (below : List Frame) (meth : Method) (c : Code) (D : va_G) (cy : Nat → ClassId) (A : Nat → Prop) (ad : Nat → Nat) (b0 : Nat) (k : Int32 → (Nat → Int64) → Option ((Nat → Int64))) : Prop :=
  ∀ (x63 : Int32) (u0 : Nat → Int64) (res : (Nat → Int64)), k x63 u0 = some res → ∀ (H : Heap) (locs : List Loc) (ls : Array Slot), va_P D classes [(b0, .inl (cy 2, 10, .inr (.inl u0)))] H → va_D A [(b0, .inl (cy 2, 10, .inr (.inl u0)))] → va_S A s.heap H locs → lv_has ls 65 [(2, .ref b0), (63, .int x63)] → W p l e rm_Cu_multiply_e10e20 s m args below meth c H locs 0 0 (MQ below (q_Cu_multiply_e10e20 D cy A b0 res) args s 0 0 A) (F0 m 1007 ls [])
def I_Cu_multiply_e10e20_e (p : Program) (l : Launch) (e : Env) (s : State) (m : MethodId) (args : Array Value) (below : List Frame) (meth : Method) (c : Code) (D : va_G) (cy : Nat → ClassId) (A : Nat → Prop) (ad : Nat → Nat) (b0 : Nat) (k : (Nat → Int64) → Option ((Nat → Int64))) : Prop :=
  ∀ (u0 : Nat → Int64) (res : (Nat → Int64)), k u0 = some res → ∀ (H : Heap) (locs : List Loc) (ls : Array Slot), va_P D classes [(b0, .inl (cy 2, 10, .inr (.inl u0)))] H → va_D A [(b0, .inl (cy 2, 10, .inr (.inl u0)))] → va_S A s.heap H locs → lv_has ls 65 [(0, .ref b0), (1, .ref b0), (2, .ref b0)] → W p l e rm_Cu_multiply_e10e20 s m args below meth c H locs 0 0 (MQ below (q_Cu_multiply_e10e20 D cy A b0 res) args s 0 0 A) (F0 m 0 ls [])
set_option maxHeartbeats 8000000 in
set_option maxRecDepth 100000 in
theorem wb_Cu_multiply_e10e20_1007 {p : Program} {l : Launch} {e : Env} {s : State} {m : MethodId} {args : Array Value} {below : List Frame} {meth : Method} {c : Code} {D : va_G} {cy : Nat → ClassId} {A : Nat → Prop} {ad : Nat → Nat} {b0 : Nat} {fu : Nat} {k_1007 : Int32 → (Nat → Int64) → Option ((Nat → Int64))} (F : Fx p s m args meth c b_Cu_multiply 65 "CoinKeeper$Curve" "multiply" none D cy ad A) (hk_1007 : I_Cu_multiply_e10e20_1007 p l e s m args below meth c D cy A ad b0 k_1007) : I_Cu_multiply_e10e20_1007 p l e s m args below meth c D cy A ad b0 (xb_Cu_multiply_e10e20_1007 fu k_1007) := by
  obtain ⟨hx, hb, hr, hml, hown, hts, hlocks, hK, hA, hSt, hnm, hex⟩ := id F
  intro x63 u0 res hf H locs ls hP hD hS hl
  unfold xb_Cu_multiply_e10e20_1007 at hf
  refine lv_iload hx hb d_Cu_multiply_1007 (lv_at hl 1 rfl) ?_
  refine lv_bipush (v := 9) hx hb d_Cu_multiply_1009 (by decide) ?_
  refine lv_icmp_ge (tgt := 1046) hx hb d_Cu_multiply_1011 (by decide) (fun cx => ?_) (fun cx => ?_)
  · have hf := ifp cx hf
    refine lv_aload_n hx hb d_Cu_multiply_1046 rfl (lv_at hl 0 rfl) ?_
    refine lv_bipush (v := 9) hx hb d_Cu_multiply_1047 (by decide) ?_
    refine va_lald hx hb hK hP 0 2 rfl rfl (inb_in (by decide)) d_Cu_multiply_1049 ?_
    refine lv_topl (fun v1 ev => ?_)
    have hf := bn ev hf
    clear ev
    refine lv_bipush (v := 22) hx hb d_Cu_multiply_1050 (by decide) ?_
    refine lv_lshr hx hb d_Cu_multiply_1052 rfl ?_
    refine lv_topl (fun v2 ev => ?_)
    have hf := bn ev hf
    clear ev
    refine lv_lstore (lv' := [(63, .long v2), (2, .ref b0)]) hx hb d_Cu_multiply_1053 hl (by decide) rfl (fun ls hl => ?_)
    refine lv_aload_n hx hb d_Cu_multiply_1055 rfl (lv_at hl 1 rfl) ?_
    refine lv_bipush (v := 9) hx hb d_Cu_multiply_1056 (by decide) ?_
    refine lv_dup2_11 hx hb d_Cu_multiply_1058 rfl rfl ?_
    refine va_lald hx hb hK hP 0 2 rfl rfl (inb_in (by decide)) d_Cu_multiply_1059 ?_
    refine lv_topl (fun v3 ev => ?_)
    have hf := bn ev hf
    clear ev
    refine lv_ldc2 (v := 4194303) hx hb hown (hts _ gw_1083) d_Cu_multiply_1060 ?_
    refine lv_land hx hb d_Cu_multiply_1063 ?_
    refine lv_topl (fun v4 ev => ?_)
    have hf := bn ev hf
    clear ev
    refine va_last hx hb hK hP hD hS 0 2 rfl rfl (inb_in (by decide)) d_Cu_multiply_1064 (fun H locs hP hD hS => ?_)
    obtain ⟨f5, ev, hf⟩ := bne hf
    have hP : va_P D classes [(b0, .inl (cy 2, 10, .inr (.inl f5)))] H := by rw [ev]; exact hP
    have hD : va_D A [(b0, .inl (cy 2, 10, .inr (.inl f5)))] := by rw [ev]; exact hD
    clear ev
    refine lv_aload_n hx hb d_Cu_multiply_1065 rfl (lv_at hl 1 rfl) ?_
    refine lv_iconst (v := 0) hx hb d_Cu_multiply_1066 (by decide) ?_
    refine lv_dup2_11 hx hb d_Cu_multiply_1067 rfl rfl ?_
    refine va_lald hx hb hK hP 0 2 rfl rfl (inb_in (by decide)) d_Cu_multiply_1068 ?_
    refine lv_topl (fun v6 ev => ?_)
    have hf := bn ev hf
    clear ev
    refine lv_lload hx hb d_Cu_multiply_1069 (lv_at hl 0 rfl) ?_
    refine lv_ldc2 (v := 977) hx hb hown (hts _ gw_1084) d_Cu_multiply_1071 ?_
    refine lv_lmul hx hb d_Cu_multiply_1074 ?_
    refine lv_ladd hx hb d_Cu_multiply_1075 ?_
    refine lv_topl (fun v7 ev => ?_)
    have hf := bn ev hf
    clear ev
    refine va_last hx hb hK hP hD hS 0 2 rfl rfl (inb_in (by decide)) d_Cu_multiply_1076 (fun H locs hP hD hS => ?_)
    obtain ⟨f8, ev, hf⟩ := bne hf
    have hP : va_P D classes [(b0, .inl (cy 2, 10, .inr (.inl f8)))] H := by rw [ev]; exact hP
    have hD : va_D A [(b0, .inl (cy 2, 10, .inr (.inl f8)))] := by rw [ev]; exact hD
    clear ev
    refine lv_aload_n hx hb d_Cu_multiply_1077 rfl (lv_at hl 1 rfl) ?_
    refine lv_iconst (v := 1) hx hb d_Cu_multiply_1078 (by decide) ?_
    refine lv_dup2_11 hx hb d_Cu_multiply_1079 rfl rfl ?_
    refine va_lald hx hb hK hP 0 2 rfl rfl (inb_in (by decide)) d_Cu_multiply_1080 ?_
    refine lv_topl (fun v9 ev => ?_)
    have hf := bn ev hf
    clear ev
    refine lv_lload hx hb d_Cu_multiply_1081 (lv_at hl 0 rfl) ?_
    refine lv_bipush (v := 6) hx hb d_Cu_multiply_1083 (by decide) ?_
    refine lv_lshl hx hb d_Cu_multiply_1085 rfl ?_
    refine lv_topl (fun v10 ev => ?_)
    have hf := bn ev hf
    clear ev
    refine lv_aload_n hx hb d_Cu_multiply_1086 rfl (lv_at hl 1 rfl) ?_
    refine lv_iconst (v := 0) hx hb d_Cu_multiply_1087 (by decide) ?_
    refine va_lald hx hb hK hP 0 2 rfl rfl (inb_in (by decide)) d_Cu_multiply_1088 ?_
    refine lv_topl (fun v11 ev => ?_)
    have hf := bn ev hf
    clear ev
    refine lv_bipush (v := 26) hx hb d_Cu_multiply_1089 (by decide) ?_
    refine lv_lshr hx hb d_Cu_multiply_1091 rfl ?_
    refine lv_ladd hx hb d_Cu_multiply_1092 ?_
    refine lv_ladd hx hb d_Cu_multiply_1093 ?_
    refine lv_topl (fun v12 ev => ?_)
    have hf := bn ev hf
    clear ev
    refine va_last hx hb hK hP hD hS 0 2 rfl rfl (inb_in (by decide)) d_Cu_multiply_1094 (fun H locs hP hD hS => ?_)
    obtain ⟨f13, ev, hf⟩ := bne hf
    have hP : va_P D classes [(b0, .inl (cy 2, 10, .inr (.inl f13)))] H := by rw [ev]; exact hP
    have hD : va_D A [(b0, .inl (cy 2, 10, .inr (.inl f13)))] := by rw [ev]; exact hD
    clear ev
    refine lv_aload_n hx hb d_Cu_multiply_1095 rfl (lv_at hl 1 rfl) ?_
    refine lv_iconst (v := 0) hx hb d_Cu_multiply_1096 (by decide) ?_
    refine lv_dup2_11 hx hb d_Cu_multiply_1097 rfl rfl ?_
    refine va_lald hx hb hK hP 0 2 rfl rfl (inb_in (by decide)) d_Cu_multiply_1098 ?_
    refine lv_topl (fun v14 ev => ?_)
    have hf := bn ev hf
    clear ev
    refine lv_ldc2 (v := 67108863) hx hb hown (hts _ gw_1075) d_Cu_multiply_1099 ?_
    refine lv_land hx hb d_Cu_multiply_1102 ?_
    refine lv_topl (fun v15 ev => ?_)
    have hf := bn ev hf
    clear ev
    refine va_last hx hb hK hP hD hS 0 2 rfl rfl (inb_in (by decide)) d_Cu_multiply_1103 (fun H locs hP hD hS => ?_)
    obtain ⟨f16, ev, hf⟩ := bne hf
    have hP : va_P D classes [(b0, .inl (cy 2, 10, .inr (.inl f16)))] H := by rw [ev]; exact hP
    have hD : va_D A [(b0, .inl (cy 2, 10, .inr (.inl f16)))] := by rw [ev]; exact hD
    clear ev
    refine lv_aload_n hx hb d_Cu_multiply_1104 rfl (lv_at hl 1 rfl) ?_
    refine lv_iconst (v := 2) hx hb d_Cu_multiply_1105 (by decide) ?_
    refine lv_dup2_11 hx hb d_Cu_multiply_1106 rfl rfl ?_
    refine va_lald hx hb hK hP 0 2 rfl rfl (inb_in (by decide)) d_Cu_multiply_1107 ?_
    refine lv_topl (fun v17 ev => ?_)
    have hf := bn ev hf
    clear ev
    refine lv_aload_n hx hb d_Cu_multiply_1108 rfl (lv_at hl 1 rfl) ?_
    refine lv_iconst (v := 1) hx hb d_Cu_multiply_1109 (by decide) ?_
    refine va_lald hx hb hK hP 0 2 rfl rfl (inb_in (by decide)) d_Cu_multiply_1110 ?_
    refine lv_topl (fun v18 ev => ?_)
    have hf := bn ev hf
    clear ev
    refine lv_bipush (v := 26) hx hb d_Cu_multiply_1111 (by decide) ?_
    refine lv_lshr hx hb d_Cu_multiply_1113 rfl ?_
    refine lv_ladd hx hb d_Cu_multiply_1114 ?_
    refine lv_topl (fun v19 ev => ?_)
    have hf := bn ev hf
    clear ev
    refine va_last hx hb hK hP hD hS 0 2 rfl rfl (inb_in (by decide)) d_Cu_multiply_1115 (fun H locs hP hD hS => ?_)
    obtain ⟨f20, ev, hf⟩ := bne hf
    have hP : va_P D classes [(b0, .inl (cy 2, 10, .inr (.inl f20)))] H := by rw [ev]; exact hP
    have hD : va_D A [(b0, .inl (cy 2, 10, .inr (.inl f20)))] := by rw [ev]; exact hD
    clear ev
    refine lv_aload_n hx hb d_Cu_multiply_1116 rfl (lv_at hl 1 rfl) ?_
    refine lv_iconst (v := 1) hx hb d_Cu_multiply_1117 (by decide) ?_
    refine lv_dup2_11 hx hb d_Cu_multiply_1118 rfl rfl ?_
    refine va_lald hx hb hK hP 0 2 rfl rfl (inb_in (by decide)) d_Cu_multiply_1119 ?_
    refine lv_topl (fun v21 ev => ?_)
    have hf := bn ev hf
    clear ev
    refine lv_ldc2 (v := 67108863) hx hb hown (hts _ gw_1075) d_Cu_multiply_1120 ?_
    refine lv_land hx hb d_Cu_multiply_1123 ?_
    refine lv_topl (fun v22 ev => ?_)
    have hf := bn ev hf
    clear ev
    refine va_last hx hb hK hP hD hS 0 2 rfl rfl (inb_in (by decide)) d_Cu_multiply_1124 (fun H locs hP hD hS => ?_)
    obtain ⟨f23, ev, hf⟩ := bne hf
    have hP : va_P D classes [(b0, .inl (cy 2, 10, .inr (.inl f23)))] H := by rw [ev]; exact hP
    have hD : va_D A [(b0, .inl (cy 2, 10, .inr (.inl f23)))] := by rw [ev]; exact hD
    clear ev
    obtain rfl := Option.some.inj hf
    exact q_rv hx hb hr hlocks hK hP hD hS d_Cu_multiply_1125
  · have hf := ifn cx hf
    refine lv_aload_n hx hb d_Cu_multiply_1014 rfl (lv_at hl 0 rfl) ?_
    refine lv_iload hx hb d_Cu_multiply_1015 (lv_at hl 1 rfl) ?_
    refine lv_iconst (v := 1) hx hb d_Cu_multiply_1017 (by decide) ?_
    refine lv_iadd hx hb d_Cu_multiply_1018 ?_
    refine lv_topi (fun v24 ev => ?_)
    have hf := bn ev hf
    clear ev
    refine lv_dup2_11 hx hb d_Cu_multiply_1019 rfl rfl ?_
    obtain ⟨hg, hf⟩ := gdp hf
    refine va_lald hx hb hK hP 0 2 rfl rfl (inb_in hg) d_Cu_multiply_1020 ?_
    refine lv_topl (fun v25 ev => ?_)
    have hf := bn ev hf
    clear ev
    refine lv_aload_n hx hb d_Cu_multiply_1021 rfl (lv_at hl 0 rfl) ?_
    refine lv_iload hx hb d_Cu_multiply_1022 (lv_at hl 1 rfl) ?_
    obtain ⟨hg, hf⟩ := gdp hf
    refine va_lald hx hb hK hP 0 2 rfl rfl (inb_in hg) d_Cu_multiply_1024 ?_
    refine lv_topl (fun v26 ev => ?_)
    have hf := bn ev hf
    clear ev
    refine lv_bipush (v := 26) hx hb d_Cu_multiply_1025 (by decide) ?_
    refine lv_lshr hx hb d_Cu_multiply_1027 rfl ?_
    refine lv_ladd hx hb d_Cu_multiply_1028 ?_
    refine lv_topl (fun v27 ev => ?_)
    have hf := bn ev hf
    clear ev
    obtain ⟨hg, hf⟩ := gdp hf
    refine va_last hx hb hK hP hD hS 0 2 rfl rfl (inb_in hg) d_Cu_multiply_1029 (fun H locs hP hD hS => ?_)
    obtain ⟨f28, ev, hf⟩ := bne hf
    have hP : va_P D classes [(b0, .inl (cy 2, 10, .inr (.inl f28)))] H := by rw [ev]; exact hP
    have hD : va_D A [(b0, .inl (cy 2, 10, .inr (.inl f28)))] := by rw [ev]; exact hD
    clear ev
    refine lv_aload_n hx hb d_Cu_multiply_1030 rfl (lv_at hl 0 rfl) ?_
    refine lv_iload hx hb d_Cu_multiply_1031 (lv_at hl 1 rfl) ?_
    refine lv_dup2_11 hx hb d_Cu_multiply_1033 rfl rfl ?_
    obtain ⟨hg, hf⟩ := gdp hf
    refine va_lald hx hb hK hP 0 2 rfl rfl (inb_in hg) d_Cu_multiply_1034 ?_
    refine lv_topl (fun v29 ev => ?_)
    have hf := bn ev hf
    clear ev
    refine lv_ldc2 (v := 67108863) hx hb hown (hts _ gw_1075) d_Cu_multiply_1035 ?_
    refine lv_land hx hb d_Cu_multiply_1038 ?_
    refine lv_topl (fun v30 ev => ?_)
    have hf := bn ev hf
    clear ev
    obtain ⟨hg, hf⟩ := gdp hf
    refine va_last hx hb hK hP hD hS 0 2 rfl rfl (inb_in hg) d_Cu_multiply_1039 (fun H locs hP hD hS => ?_)
    obtain ⟨f31, ev, hf⟩ := bne hf
    have hP : va_P D classes [(b0, .inl (cy 2, 10, .inr (.inl f31)))] H := by rw [ev]; exact hP
    have hD : va_D A [(b0, .inl (cy 2, 10, .inr (.inl f31)))] := by rw [ev]; exact hD
    clear ev
    obtain ⟨v32, ev, hf⟩ := bne hf
    refine lv_iinc (v := v32) (lv' := [(63, .int v32), (2, .ref b0)]) hx hb d_Cu_multiply_1040 hl (k := 1) rfl (by rw [ev]; rfl) (by decide) rfl (fun ls hl => ?_)
    clear ev
    refine lv_goto (tgt := 1007) hx hb d_Cu_multiply_1043 (by decide) ?_
    exact hk_1007 _ _ _ hf _ _ _ hP hD hS (lv_sub hl [1, 0] rfl)
theorem w_Cu_multiply_e10e20_1007 {p : Program} {l : Launch} {e : Env} {s : State} {m : MethodId} {args : Array Value} {below : List Frame} {meth : Method} {c : Code} {D : va_G} {cy : Nat → ClassId} {A : Nat → Prop} {ad : Nat → Nat} {b0 : Nat} {fu : Nat} (F : Fx p s m args meth c b_Cu_multiply 65 "CoinKeeper$Curve" "multiply" none D cy ad A) : ∀ n : Nat, I_Cu_multiply_e10e20_1007 p l e s m args below meth c D cy A ad b0 (x_Cu_multiply_e10e20_1007 fu n)
  | 0 => fun _ _ _ hf => nomatch (show (none : Option ((Nat → Int64))) = some _ from hf)
  | n + 1 => wb_Cu_multiply_e10e20_1007 F (w_Cu_multiply_e10e20_1007 F n)
set_option maxHeartbeats 8000000 in
set_option maxRecDepth 100000 in
theorem we_Cu_multiply_e10e20 {p : Program} {l : Launch} {e : Env} {s : State} {m : MethodId} {args : Array Value} {below : List Frame} {meth : Method} {c : Code} {D : va_G} {cy : Nat → ClassId} {A : Nat → Prop} {ad : Nat → Nat} {b0 : Nat} {fu : Nat} (F : Fx p s m args meth c b_Cu_multiply 65 "CoinKeeper$Curve" "multiply" none D cy ad A) : I_Cu_multiply_e10e20_e p l e s m args below meth c D cy A ad b0 (x_Cu_multiply_e10e20 fu) := by
  obtain ⟨hx, hb, hr, hml, hown, hts, hlocks, hK, hA, hSt, hnm, hex⟩ := id F
  intro u0 res hf H locs ls hP hD hS hl
  unfold x_Cu_multiply_e10e20 at hf
  refine lv_aload_n hx hb d_Cu_multiply_0 rfl (lv_at hl 0 rfl) ?_
  refine lv_iconst (v := 0) hx hb d_Cu_multiply_1 (by decide) ?_
  refine va_lald hx hb hK hP 0 2 rfl rfl (inb_in (by decide)) d_Cu_multiply_2 ?_
  refine lv_topl (fun v1 ev => ?_)
  have hf := bn ev hf
  clear ev
  refine lv_lstore_n (lv' := [(3, .long v1), (0, .ref b0), (1, .ref b0), (2, .ref b0)]) hx hb d_Cu_multiply_3 rfl hl (by decide) rfl (fun ls hl => ?_)
  refine lv_aload_n hx hb d_Cu_multiply_4 rfl (lv_at hl 1 rfl) ?_
  refine lv_iconst (v := 1) hx hb d_Cu_multiply_5 (by decide) ?_
  refine va_lald hx hb hK hP 0 2 rfl rfl (inb_in (by decide)) d_Cu_multiply_6 ?_
  refine lv_topl (fun v2 ev => ?_)
  have hf := bn ev hf
  clear ev
  refine lv_lstore (lv' := [(5, .long v2), (3, .long v1), (0, .ref b0), (1, .ref b0), (2, .ref b0)]) hx hb d_Cu_multiply_7 hl (by decide) rfl (fun ls hl => ?_)
  refine lv_aload_n hx hb d_Cu_multiply_9 rfl (lv_at hl 2 rfl) ?_
  refine lv_iconst (v := 2) hx hb d_Cu_multiply_10 (by decide) ?_
  refine va_lald hx hb hK hP 0 2 rfl rfl (inb_in (by decide)) d_Cu_multiply_11 ?_
  refine lv_topl (fun v3 ev => ?_)
  have hf := bn ev hf
  clear ev
  refine lv_lstore (lv' := [(7, .long v3), (5, .long v2), (3, .long v1), (0, .ref b0), (1, .ref b0), (2, .ref b0)]) hx hb d_Cu_multiply_12 hl (by decide) rfl (fun ls hl => ?_)
  refine lv_aload_n hx hb d_Cu_multiply_14 rfl (lv_at hl 3 rfl) ?_
  refine lv_iconst (v := 3) hx hb d_Cu_multiply_15 (by decide) ?_
  refine va_lald hx hb hK hP 0 2 rfl rfl (inb_in (by decide)) d_Cu_multiply_16 ?_
  refine lv_topl (fun v4 ev => ?_)
  have hf := bn ev hf
  clear ev
  refine lv_lstore (lv' := [(9, .long v4), (7, .long v3), (5, .long v2), (3, .long v1), (0, .ref b0), (1, .ref b0), (2, .ref b0)]) hx hb d_Cu_multiply_17 hl (by decide) rfl (fun ls hl => ?_)
  refine lv_aload_n hx hb d_Cu_multiply_19 rfl (lv_at hl 4 rfl) ?_
  refine lv_iconst (v := 4) hx hb d_Cu_multiply_20 (by decide) ?_
  refine va_lald hx hb hK hP 0 2 rfl rfl (inb_in (by decide)) d_Cu_multiply_21 ?_
  refine lv_topl (fun v5 ev => ?_)
  have hf := bn ev hf
  clear ev
  refine lv_lstore (lv' := [(11, .long v5), (9, .long v4), (7, .long v3), (5, .long v2), (3, .long v1), (0, .ref b0), (1, .ref b0), (2, .ref b0)]) hx hb d_Cu_multiply_22 hl (by decide) rfl (fun ls hl => ?_)
  refine lv_aload_n hx hb d_Cu_multiply_24 rfl (lv_at hl 5 rfl) ?_
  refine lv_iconst (v := 5) hx hb d_Cu_multiply_25 (by decide) ?_
  refine va_lald hx hb hK hP 0 2 rfl rfl (inb_in (by decide)) d_Cu_multiply_26 ?_
  refine lv_topl (fun v6 ev => ?_)
  have hf := bn ev hf
  clear ev
  refine lv_lstore (lv' := [(13, .long v6), (11, .long v5), (9, .long v4), (7, .long v3), (5, .long v2), (3, .long v1), (0, .ref b0), (1, .ref b0), (2, .ref b0)]) hx hb d_Cu_multiply_27 hl (by decide) rfl (fun ls hl => ?_)
  refine lv_aload_n hx hb d_Cu_multiply_29 rfl (lv_at hl 6 rfl) ?_
  refine lv_bipush (v := 6) hx hb d_Cu_multiply_30 (by decide) ?_
  refine va_lald hx hb hK hP 0 2 rfl rfl (inb_in (by decide)) d_Cu_multiply_32 ?_
  refine lv_topl (fun v7 ev => ?_)
  have hf := bn ev hf
  clear ev
  refine lv_lstore (lv' := [(15, .long v7), (13, .long v6), (11, .long v5), (9, .long v4), (7, .long v3), (5, .long v2), (3, .long v1), (0, .ref b0), (1, .ref b0), (2, .ref b0)]) hx hb d_Cu_multiply_33 hl (by decide) rfl (fun ls hl => ?_)
  refine lv_aload_n hx hb d_Cu_multiply_35 rfl (lv_at hl 7 rfl) ?_
  refine lv_bipush (v := 7) hx hb d_Cu_multiply_36 (by decide) ?_
  refine va_lald hx hb hK hP 0 2 rfl rfl (inb_in (by decide)) d_Cu_multiply_38 ?_
  refine lv_topl (fun v8 ev => ?_)
  have hf := bn ev hf
  clear ev
  refine lv_lstore (lv' := [(17, .long v8), (15, .long v7), (13, .long v6), (11, .long v5), (9, .long v4), (7, .long v3), (5, .long v2), (3, .long v1), (0, .ref b0), (1, .ref b0), (2, .ref b0)]) hx hb d_Cu_multiply_39 hl (by decide) rfl (fun ls hl => ?_)
  refine lv_aload_n hx hb d_Cu_multiply_41 rfl (lv_at hl 8 rfl) ?_
  refine lv_bipush (v := 8) hx hb d_Cu_multiply_42 (by decide) ?_
  refine va_lald hx hb hK hP 0 2 rfl rfl (inb_in (by decide)) d_Cu_multiply_44 ?_
  refine lv_topl (fun v9 ev => ?_)
  have hf := bn ev hf
  clear ev
  refine lv_lstore (lv' := [(19, .long v9), (17, .long v8), (15, .long v7), (13, .long v6), (11, .long v5), (9, .long v4), (7, .long v3), (5, .long v2), (3, .long v1), (0, .ref b0), (1, .ref b0), (2, .ref b0)]) hx hb d_Cu_multiply_45 hl (by decide) rfl (fun ls hl => ?_)
  refine lv_aload_n hx hb d_Cu_multiply_47 rfl (lv_at hl 9 rfl) ?_
  refine lv_bipush (v := 9) hx hb d_Cu_multiply_48 (by decide) ?_
  refine va_lald hx hb hK hP 0 2 rfl rfl (inb_in (by decide)) d_Cu_multiply_50 ?_
  refine lv_topl (fun v10 ev => ?_)
  have hf := bn ev hf
  clear ev
  refine lv_lstore (lv' := [(21, .long v10), (19, .long v9), (17, .long v8), (15, .long v7), (13, .long v6), (11, .long v5), (9, .long v4), (7, .long v3), (5, .long v2), (3, .long v1), (0, .ref b0), (1, .ref b0), (2, .ref b0)]) hx hb d_Cu_multiply_51 hl (by decide) rfl (fun ls hl => ?_)
  refine lv_aload_n hx hb d_Cu_multiply_53 rfl (lv_at hl 11 rfl) ?_
  refine lv_iconst (v := 0) hx hb d_Cu_multiply_54 (by decide) ?_
  refine va_lald hx hb hK hP 0 2 rfl rfl (inb_in (by decide)) d_Cu_multiply_55 ?_
  refine lv_topl (fun v11 ev => ?_)
  have hf := bn ev hf
  clear ev
  refine lv_lstore (lv' := [(23, .long v11), (21, .long v10), (19, .long v9), (17, .long v8), (15, .long v7), (13, .long v6), (11, .long v5), (9, .long v4), (7, .long v3), (5, .long v2), (3, .long v1), (0, .ref b0), (1, .ref b0), (2, .ref b0)]) hx hb d_Cu_multiply_56 hl (by decide) rfl (fun ls hl => ?_)
  refine lv_aload_n hx hb d_Cu_multiply_58 rfl (lv_at hl 12 rfl) ?_
  refine lv_iconst (v := 1) hx hb d_Cu_multiply_59 (by decide) ?_
  refine va_lald hx hb hK hP 0 2 rfl rfl (inb_in (by decide)) d_Cu_multiply_60 ?_
  refine lv_topl (fun v12 ev => ?_)
  have hf := bn ev hf
  clear ev
  refine lv_lstore (lv' := [(25, .long v12), (23, .long v11), (21, .long v10), (19, .long v9), (17, .long v8), (15, .long v7), (13, .long v6), (11, .long v5), (9, .long v4), (7, .long v3), (5, .long v2), (3, .long v1), (0, .ref b0), (1, .ref b0), (2, .ref b0)]) hx hb d_Cu_multiply_61 hl (by decide) rfl (fun ls hl => ?_)
  refine lv_aload_n hx hb d_Cu_multiply_63 rfl (lv_at hl 13 rfl) ?_
  refine lv_iconst (v := 2) hx hb d_Cu_multiply_64 (by decide) ?_
  refine va_lald hx hb hK hP 0 2 rfl rfl (inb_in (by decide)) d_Cu_multiply_65 ?_
  refine lv_topl (fun v13 ev => ?_)
  have hf := bn ev hf
  clear ev
  refine lv_lstore (lv' := [(27, .long v13), (25, .long v12), (23, .long v11), (21, .long v10), (19, .long v9), (17, .long v8), (15, .long v7), (13, .long v6), (11, .long v5), (9, .long v4), (7, .long v3), (5, .long v2), (3, .long v1), (0, .ref b0), (1, .ref b0), (2, .ref b0)]) hx hb d_Cu_multiply_66 hl (by decide) rfl (fun ls hl => ?_)
  refine lv_aload_n hx hb d_Cu_multiply_68 rfl (lv_at hl 14 rfl) ?_
  refine lv_iconst (v := 3) hx hb d_Cu_multiply_69 (by decide) ?_
  refine va_lald hx hb hK hP 0 2 rfl rfl (inb_in (by decide)) d_Cu_multiply_70 ?_
  refine lv_topl (fun v14 ev => ?_)
  have hf := bn ev hf
  clear ev
  refine lv_lstore (lv' := [(29, .long v14), (27, .long v13), (25, .long v12), (23, .long v11), (21, .long v10), (19, .long v9), (17, .long v8), (15, .long v7), (13, .long v6), (11, .long v5), (9, .long v4), (7, .long v3), (5, .long v2), (3, .long v1), (0, .ref b0), (1, .ref b0), (2, .ref b0)]) hx hb d_Cu_multiply_71 hl (by decide) rfl (fun ls hl => ?_)
  refine lv_aload_n hx hb d_Cu_multiply_73 rfl (lv_at hl 15 rfl) ?_
  refine lv_iconst (v := 4) hx hb d_Cu_multiply_74 (by decide) ?_
  refine va_lald hx hb hK hP 0 2 rfl rfl (inb_in (by decide)) d_Cu_multiply_75 ?_
  refine lv_topl (fun v15 ev => ?_)
  have hf := bn ev hf
  clear ev
  refine lv_lstore (lv' := [(31, .long v15), (29, .long v14), (27, .long v13), (25, .long v12), (23, .long v11), (21, .long v10), (19, .long v9), (17, .long v8), (15, .long v7), (13, .long v6), (11, .long v5), (9, .long v4), (7, .long v3), (5, .long v2), (3, .long v1), (0, .ref b0), (1, .ref b0), (2, .ref b0)]) hx hb d_Cu_multiply_76 hl (by decide) rfl (fun ls hl => ?_)
  refine lv_aload_n hx hb d_Cu_multiply_78 rfl (lv_at hl 16 rfl) ?_
  refine lv_iconst (v := 5) hx hb d_Cu_multiply_79 (by decide) ?_
  refine va_lald hx hb hK hP 0 2 rfl rfl (inb_in (by decide)) d_Cu_multiply_80 ?_
  refine lv_topl (fun v16 ev => ?_)
  have hf := bn ev hf
  clear ev
  refine lv_lstore (lv' := [(33, .long v16), (31, .long v15), (29, .long v14), (27, .long v13), (25, .long v12), (23, .long v11), (21, .long v10), (19, .long v9), (17, .long v8), (15, .long v7), (13, .long v6), (11, .long v5), (9, .long v4), (7, .long v3), (5, .long v2), (3, .long v1), (0, .ref b0), (1, .ref b0), (2, .ref b0)]) hx hb d_Cu_multiply_81 hl (by decide) rfl (fun ls hl => ?_)
  refine lv_aload_n hx hb d_Cu_multiply_83 rfl (lv_at hl 17 rfl) ?_
  refine lv_bipush (v := 6) hx hb d_Cu_multiply_84 (by decide) ?_
  refine va_lald hx hb hK hP 0 2 rfl rfl (inb_in (by decide)) d_Cu_multiply_86 ?_
  refine lv_topl (fun v17 ev => ?_)
  have hf := bn ev hf
  clear ev
  refine lv_lstore (lv' := [(35, .long v17), (33, .long v16), (31, .long v15), (29, .long v14), (27, .long v13), (25, .long v12), (23, .long v11), (21, .long v10), (19, .long v9), (17, .long v8), (15, .long v7), (13, .long v6), (11, .long v5), (9, .long v4), (7, .long v3), (5, .long v2), (3, .long v1), (0, .ref b0), (1, .ref b0), (2, .ref b0)]) hx hb d_Cu_multiply_87 hl (by decide) rfl (fun ls hl => ?_)
  refine lv_aload_n hx hb d_Cu_multiply_89 rfl (lv_at hl 18 rfl) ?_
  refine lv_bipush (v := 7) hx hb d_Cu_multiply_90 (by decide) ?_
  refine va_lald hx hb hK hP 0 2 rfl rfl (inb_in (by decide)) d_Cu_multiply_92 ?_
  refine lv_topl (fun v18 ev => ?_)
  have hf := bn ev hf
  clear ev
  refine lv_lstore (lv' := [(37, .long v18), (35, .long v17), (33, .long v16), (31, .long v15), (29, .long v14), (27, .long v13), (25, .long v12), (23, .long v11), (21, .long v10), (19, .long v9), (17, .long v8), (15, .long v7), (13, .long v6), (11, .long v5), (9, .long v4), (7, .long v3), (5, .long v2), (3, .long v1), (0, .ref b0), (1, .ref b0), (2, .ref b0)]) hx hb d_Cu_multiply_93 hl (by decide) rfl (fun ls hl => ?_)
  refine lv_aload_n hx hb d_Cu_multiply_95 rfl (lv_at hl 19 rfl) ?_
  refine lv_bipush (v := 8) hx hb d_Cu_multiply_96 (by decide) ?_
  refine va_lald hx hb hK hP 0 2 rfl rfl (inb_in (by decide)) d_Cu_multiply_98 ?_
  refine lv_topl (fun v19 ev => ?_)
  have hf := bn ev hf
  clear ev
  refine lv_lstore (lv' := [(39, .long v19), (37, .long v18), (35, .long v17), (33, .long v16), (31, .long v15), (29, .long v14), (27, .long v13), (25, .long v12), (23, .long v11), (21, .long v10), (19, .long v9), (17, .long v8), (15, .long v7), (13, .long v6), (11, .long v5), (9, .long v4), (7, .long v3), (5, .long v2), (3, .long v1), (0, .ref b0), (1, .ref b0), (2, .ref b0)]) hx hb d_Cu_multiply_99 hl (by decide) rfl (fun ls hl => ?_)
  refine lv_aload_n hx hb d_Cu_multiply_101 rfl (lv_at hl 20 rfl) ?_
  refine lv_bipush (v := 9) hx hb d_Cu_multiply_102 (by decide) ?_
  refine va_lald hx hb hK hP 0 2 rfl rfl (inb_in (by decide)) d_Cu_multiply_104 ?_
  refine lv_topl (fun v20 ev => ?_)
  have hf := bn ev hf
  clear ev
  refine lv_lstore (lv' := [(41, .long v20), (39, .long v19), (37, .long v18), (35, .long v17), (33, .long v16), (31, .long v15), (29, .long v14), (27, .long v13), (25, .long v12), (23, .long v11), (21, .long v10), (19, .long v9), (17, .long v8), (15, .long v7), (13, .long v6), (11, .long v5), (9, .long v4), (7, .long v3), (5, .long v2), (3, .long v1), (0, .ref b0), (1, .ref b0), (2, .ref b0)]) hx hb d_Cu_multiply_105 hl (by decide) rfl (fun ls hl => ?_)
  refine lv_lload hx hb d_Cu_multiply_107 (lv_at hl 18 rfl) ?_
  refine lv_lload hx hb d_Cu_multiply_109 (lv_at hl 0 rfl) ?_
  refine lv_lmul hx hb d_Cu_multiply_111 ?_
  refine lv_topl (fun v21 ev => ?_)
  have hf := bn ev hf
  clear ev
  refine lv_lload hx hb d_Cu_multiply_112 (lv_at hl 17 rfl) ?_
  refine lv_lload hx hb d_Cu_multiply_114 (lv_at hl 1 rfl) ?_
  refine lv_lmul hx hb d_Cu_multiply_116 ?_
  refine lv_ladd hx hb d_Cu_multiply_117 ?_
  refine lv_topl (fun v22 ev => ?_)
  have hf := bn ev hf
  clear ev
  refine lv_lload hx hb d_Cu_multiply_118 (lv_at hl 16 rfl) ?_
  refine lv_lload hx hb d_Cu_multiply_120 (lv_at hl 2 rfl) ?_
  refine lv_lmul hx hb d_Cu_multiply_122 ?_
  refine lv_ladd hx hb d_Cu_multiply_123 ?_
  refine lv_topl (fun v23 ev => ?_)
  have hf := bn ev hf
  clear ev
  refine lv_lload hx hb d_Cu_multiply_124 (lv_at hl 15 rfl) ?_
  refine lv_lload hx hb d_Cu_multiply_126 (lv_at hl 3 rfl) ?_
  refine lv_lmul hx hb d_Cu_multiply_128 ?_
  refine lv_ladd hx hb d_Cu_multiply_129 ?_
  refine lv_topl (fun v24 ev => ?_)
  have hf := bn ev hf
  clear ev
  refine lv_lload hx hb d_Cu_multiply_130 (lv_at hl 14 rfl) ?_
  refine lv_lload hx hb d_Cu_multiply_132 (lv_at hl 4 rfl) ?_
  refine lv_lmul hx hb d_Cu_multiply_134 ?_
  refine lv_ladd hx hb d_Cu_multiply_135 ?_
  refine lv_topl (fun v25 ev => ?_)
  have hf := bn ev hf
  clear ev
  refine lv_lload hx hb d_Cu_multiply_136 (lv_at hl 13 rfl) ?_
  refine lv_lload hx hb d_Cu_multiply_138 (lv_at hl 5 rfl) ?_
  refine lv_lmul hx hb d_Cu_multiply_140 ?_
  refine lv_ladd hx hb d_Cu_multiply_141 ?_
  refine lv_topl (fun v26 ev => ?_)
  have hf := bn ev hf
  clear ev
  refine lv_lload hx hb d_Cu_multiply_142 (lv_at hl 12 rfl) ?_
  refine lv_lload hx hb d_Cu_multiply_144 (lv_at hl 6 rfl) ?_
  refine lv_lmul hx hb d_Cu_multiply_146 ?_
  refine lv_ladd hx hb d_Cu_multiply_147 ?_
  refine lv_topl (fun v27 ev => ?_)
  have hf := bn ev hf
  clear ev
  refine lv_lload hx hb d_Cu_multiply_148 (lv_at hl 11 rfl) ?_
  refine lv_lload hx hb d_Cu_multiply_150 (lv_at hl 7 rfl) ?_
  refine lv_lmul hx hb d_Cu_multiply_152 ?_
  refine lv_ladd hx hb d_Cu_multiply_153 ?_
  refine lv_topl (fun v28 ev => ?_)
  have hf := bn ev hf
  clear ev
  refine lv_lload hx hb d_Cu_multiply_154 (lv_at hl 10 rfl) ?_
  refine lv_lload hx hb d_Cu_multiply_156 (lv_at hl 8 rfl) ?_
  refine lv_lmul hx hb d_Cu_multiply_158 ?_
  refine lv_ladd hx hb d_Cu_multiply_159 ?_
  refine lv_topl (fun v29 ev => ?_)
  have hf := bn ev hf
  clear ev
  refine lv_lstore (lv' := [(43, .long v29), (41, .long v20), (39, .long v19), (37, .long v18), (35, .long v17), (33, .long v16), (31, .long v15), (29, .long v14), (27, .long v13), (25, .long v12), (23, .long v11), (21, .long v10), (19, .long v9), (17, .long v8), (15, .long v7), (13, .long v6), (11, .long v5), (9, .long v4), (7, .long v3), (5, .long v2), (3, .long v1), (0, .ref b0), (1, .ref b0), (2, .ref b0)]) hx hb d_Cu_multiply_160 hl (by decide) rfl (fun ls hl => ?_)
  refine lv_lload hx hb d_Cu_multiply_162 (lv_at hl 18 rfl) ?_
  refine lv_lload hx hb d_Cu_multiply_164 (lv_at hl 1 rfl) ?_
  refine lv_lmul hx hb d_Cu_multiply_166 ?_
  refine lv_topl (fun v30 ev => ?_)
  have hf := bn ev hf
  clear ev
  refine lv_lload hx hb d_Cu_multiply_167 (lv_at hl 17 rfl) ?_
  refine lv_lload hx hb d_Cu_multiply_169 (lv_at hl 2 rfl) ?_
  refine lv_lmul hx hb d_Cu_multiply_171 ?_
  refine lv_ladd hx hb d_Cu_multiply_172 ?_
  refine lv_topl (fun v31 ev => ?_)
  have hf := bn ev hf
  clear ev
  refine lv_lload hx hb d_Cu_multiply_173 (lv_at hl 16 rfl) ?_
  refine lv_lload hx hb d_Cu_multiply_175 (lv_at hl 3 rfl) ?_
  refine lv_lmul hx hb d_Cu_multiply_177 ?_
  refine lv_ladd hx hb d_Cu_multiply_178 ?_
  refine lv_topl (fun v32 ev => ?_)
  have hf := bn ev hf
  clear ev
  refine lv_lload hx hb d_Cu_multiply_179 (lv_at hl 15 rfl) ?_
  refine lv_lload hx hb d_Cu_multiply_181 (lv_at hl 4 rfl) ?_
  refine lv_lmul hx hb d_Cu_multiply_183 ?_
  refine lv_ladd hx hb d_Cu_multiply_184 ?_
  refine lv_topl (fun v33 ev => ?_)
  have hf := bn ev hf
  clear ev
  refine lv_lload hx hb d_Cu_multiply_185 (lv_at hl 14 rfl) ?_
  refine lv_lload hx hb d_Cu_multiply_187 (lv_at hl 5 rfl) ?_
  refine lv_lmul hx hb d_Cu_multiply_189 ?_
  refine lv_ladd hx hb d_Cu_multiply_190 ?_
  refine lv_topl (fun v34 ev => ?_)
  have hf := bn ev hf
  clear ev
  refine lv_lload hx hb d_Cu_multiply_191 (lv_at hl 13 rfl) ?_
  refine lv_lload hx hb d_Cu_multiply_193 (lv_at hl 6 rfl) ?_
  refine lv_lmul hx hb d_Cu_multiply_195 ?_
  refine lv_ladd hx hb d_Cu_multiply_196 ?_
  refine lv_topl (fun v35 ev => ?_)
  have hf := bn ev hf
  clear ev
  refine lv_lload hx hb d_Cu_multiply_197 (lv_at hl 12 rfl) ?_
  refine lv_lload hx hb d_Cu_multiply_199 (lv_at hl 7 rfl) ?_
  refine lv_lmul hx hb d_Cu_multiply_201 ?_
  refine lv_ladd hx hb d_Cu_multiply_202 ?_
  refine lv_topl (fun v36 ev => ?_)
  have hf := bn ev hf
  clear ev
  refine lv_lload hx hb d_Cu_multiply_203 (lv_at hl 11 rfl) ?_
  refine lv_lload hx hb d_Cu_multiply_205 (lv_at hl 8 rfl) ?_
  refine lv_lmul hx hb d_Cu_multiply_207 ?_
  refine lv_ladd hx hb d_Cu_multiply_208 ?_
  refine lv_topl (fun v37 ev => ?_)
  have hf := bn ev hf
  clear ev
  refine lv_lload hx hb d_Cu_multiply_209 (lv_at hl 0 rfl) ?_
  refine lv_bipush (v := 26) hx hb d_Cu_multiply_211 (by decide) ?_
  refine lv_lshr hx hb d_Cu_multiply_213 rfl ?_
  refine lv_ladd hx hb d_Cu_multiply_214 ?_
  refine lv_topl (fun v38 ev => ?_)
  have hf := bn ev hf
  clear ev
  refine lv_lstore (lv' := [(45, .long v38), (43, .long v29), (41, .long v20), (39, .long v19), (37, .long v18), (35, .long v17), (33, .long v16), (31, .long v15), (29, .long v14), (27, .long v13), (25, .long v12), (23, .long v11), (21, .long v10), (19, .long v9), (17, .long v8), (15, .long v7), (13, .long v6), (11, .long v5), (9, .long v4), (7, .long v3), (5, .long v2), (3, .long v1), (0, .ref b0), (1, .ref b0), (2, .ref b0)]) hx hb d_Cu_multiply_215 hl (by decide) rfl (fun ls hl => ?_)
  refine lv_lload hx hb d_Cu_multiply_217 (lv_at hl 18 rfl) ?_
  refine lv_lload hx hb d_Cu_multiply_219 (lv_at hl 2 rfl) ?_
  refine lv_lmul hx hb d_Cu_multiply_221 ?_
  refine lv_topl (fun v39 ev => ?_)
  have hf := bn ev hf
  clear ev
  refine lv_lload hx hb d_Cu_multiply_222 (lv_at hl 17 rfl) ?_
  refine lv_lload hx hb d_Cu_multiply_224 (lv_at hl 3 rfl) ?_
  refine lv_lmul hx hb d_Cu_multiply_226 ?_
  refine lv_ladd hx hb d_Cu_multiply_227 ?_
  refine lv_topl (fun v40 ev => ?_)
  have hf := bn ev hf
  clear ev
  refine lv_lload hx hb d_Cu_multiply_228 (lv_at hl 16 rfl) ?_
  refine lv_lload hx hb d_Cu_multiply_230 (lv_at hl 4 rfl) ?_
  refine lv_lmul hx hb d_Cu_multiply_232 ?_
  refine lv_ladd hx hb d_Cu_multiply_233 ?_
  refine lv_topl (fun v41 ev => ?_)
  have hf := bn ev hf
  clear ev
  refine lv_lload hx hb d_Cu_multiply_234 (lv_at hl 15 rfl) ?_
  refine lv_lload hx hb d_Cu_multiply_236 (lv_at hl 5 rfl) ?_
  refine lv_lmul hx hb d_Cu_multiply_238 ?_
  refine lv_ladd hx hb d_Cu_multiply_239 ?_
  refine lv_topl (fun v42 ev => ?_)
  have hf := bn ev hf
  clear ev
  refine lv_lload hx hb d_Cu_multiply_240 (lv_at hl 14 rfl) ?_
  refine lv_lload hx hb d_Cu_multiply_242 (lv_at hl 6 rfl) ?_
  refine lv_lmul hx hb d_Cu_multiply_244 ?_
  refine lv_ladd hx hb d_Cu_multiply_245 ?_
  refine lv_topl (fun v43 ev => ?_)
  have hf := bn ev hf
  clear ev
  refine lv_lload hx hb d_Cu_multiply_246 (lv_at hl 13 rfl) ?_
  refine lv_lload hx hb d_Cu_multiply_248 (lv_at hl 7 rfl) ?_
  refine lv_lmul hx hb d_Cu_multiply_250 ?_
  refine lv_ladd hx hb d_Cu_multiply_251 ?_
  refine lv_topl (fun v44 ev => ?_)
  have hf := bn ev hf
  clear ev
  refine lv_lload hx hb d_Cu_multiply_252 (lv_at hl 12 rfl) ?_
  refine lv_lload hx hb d_Cu_multiply_254 (lv_at hl 8 rfl) ?_
  refine lv_lmul hx hb d_Cu_multiply_256 ?_
  refine lv_ladd hx hb d_Cu_multiply_257 ?_
  refine lv_topl (fun v45 ev => ?_)
  have hf := bn ev hf
  clear ev
  refine lv_lload hx hb d_Cu_multiply_258 (lv_at hl 0 rfl) ?_
  refine lv_bipush (v := 26) hx hb d_Cu_multiply_260 (by decide) ?_
  refine lv_lshr hx hb d_Cu_multiply_262 rfl ?_
  refine lv_ladd hx hb d_Cu_multiply_263 ?_
  refine lv_topl (fun v46 ev => ?_)
  have hf := bn ev hf
  clear ev
  refine lv_lstore (lv' := [(47, .long v46), (45, .long v38), (43, .long v29), (41, .long v20), (39, .long v19), (37, .long v18), (35, .long v17), (33, .long v16), (31, .long v15), (29, .long v14), (27, .long v13), (25, .long v12), (23, .long v11), (21, .long v10), (19, .long v9), (17, .long v8), (15, .long v7), (13, .long v6), (11, .long v5), (9, .long v4), (7, .long v3), (5, .long v2), (3, .long v1), (0, .ref b0), (1, .ref b0), (2, .ref b0)]) hx hb d_Cu_multiply_264 hl (by decide) rfl (fun ls hl => ?_)
  refine lv_lload hx hb d_Cu_multiply_266 (lv_at hl 18 rfl) ?_
  refine lv_lload hx hb d_Cu_multiply_268 (lv_at hl 3 rfl) ?_
  refine lv_lmul hx hb d_Cu_multiply_270 ?_
  refine lv_topl (fun v47 ev => ?_)
  have hf := bn ev hf
  clear ev
  refine lv_lload hx hb d_Cu_multiply_271 (lv_at hl 17 rfl) ?_
  refine lv_lload hx hb d_Cu_multiply_273 (lv_at hl 4 rfl) ?_
  refine lv_lmul hx hb d_Cu_multiply_275 ?_
  refine lv_ladd hx hb d_Cu_multiply_276 ?_
  refine lv_topl (fun v48 ev => ?_)
  have hf := bn ev hf
  clear ev
  refine lv_lload hx hb d_Cu_multiply_277 (lv_at hl 16 rfl) ?_
  refine lv_lload hx hb d_Cu_multiply_279 (lv_at hl 5 rfl) ?_
  refine lv_lmul hx hb d_Cu_multiply_281 ?_
  refine lv_ladd hx hb d_Cu_multiply_282 ?_
  refine lv_topl (fun v49 ev => ?_)
  have hf := bn ev hf
  clear ev
  refine lv_lload hx hb d_Cu_multiply_283 (lv_at hl 15 rfl) ?_
  refine lv_lload hx hb d_Cu_multiply_285 (lv_at hl 6 rfl) ?_
  refine lv_lmul hx hb d_Cu_multiply_287 ?_
  refine lv_ladd hx hb d_Cu_multiply_288 ?_
  refine lv_topl (fun v50 ev => ?_)
  have hf := bn ev hf
  clear ev
  refine lv_lload hx hb d_Cu_multiply_289 (lv_at hl 14 rfl) ?_
  refine lv_lload hx hb d_Cu_multiply_291 (lv_at hl 7 rfl) ?_
  refine lv_lmul hx hb d_Cu_multiply_293 ?_
  refine lv_ladd hx hb d_Cu_multiply_294 ?_
  refine lv_topl (fun v51 ev => ?_)
  have hf := bn ev hf
  clear ev
  refine lv_lload hx hb d_Cu_multiply_295 (lv_at hl 13 rfl) ?_
  refine lv_lload hx hb d_Cu_multiply_297 (lv_at hl 8 rfl) ?_
  refine lv_lmul hx hb d_Cu_multiply_299 ?_
  refine lv_ladd hx hb d_Cu_multiply_300 ?_
  refine lv_topl (fun v52 ev => ?_)
  have hf := bn ev hf
  clear ev
  refine lv_lload hx hb d_Cu_multiply_301 (lv_at hl 0 rfl) ?_
  refine lv_bipush (v := 26) hx hb d_Cu_multiply_303 (by decide) ?_
  refine lv_lshr hx hb d_Cu_multiply_305 rfl ?_
  refine lv_ladd hx hb d_Cu_multiply_306 ?_
  refine lv_topl (fun v53 ev => ?_)
  have hf := bn ev hf
  clear ev
  refine lv_lstore (lv' := [(49, .long v53), (47, .long v46), (45, .long v38), (43, .long v29), (41, .long v20), (39, .long v19), (37, .long v18), (35, .long v17), (33, .long v16), (31, .long v15), (29, .long v14), (27, .long v13), (25, .long v12), (23, .long v11), (21, .long v10), (19, .long v9), (17, .long v8), (15, .long v7), (13, .long v6), (11, .long v5), (9, .long v4), (7, .long v3), (5, .long v2), (3, .long v1), (0, .ref b0), (1, .ref b0), (2, .ref b0)]) hx hb d_Cu_multiply_307 hl (by decide) rfl (fun ls hl => ?_)
  refine lv_lload hx hb d_Cu_multiply_309 (lv_at hl 18 rfl) ?_
  refine lv_lload hx hb d_Cu_multiply_311 (lv_at hl 4 rfl) ?_
  refine lv_lmul hx hb d_Cu_multiply_313 ?_
  refine lv_topl (fun v54 ev => ?_)
  have hf := bn ev hf
  clear ev
  refine lv_lload hx hb d_Cu_multiply_314 (lv_at hl 17 rfl) ?_
  refine lv_lload hx hb d_Cu_multiply_316 (lv_at hl 5 rfl) ?_
  refine lv_lmul hx hb d_Cu_multiply_318 ?_
  refine lv_ladd hx hb d_Cu_multiply_319 ?_
  refine lv_topl (fun v55 ev => ?_)
  have hf := bn ev hf
  clear ev
  refine lv_lload hx hb d_Cu_multiply_320 (lv_at hl 16 rfl) ?_
  refine lv_lload hx hb d_Cu_multiply_322 (lv_at hl 6 rfl) ?_
  refine lv_lmul hx hb d_Cu_multiply_324 ?_
  refine lv_ladd hx hb d_Cu_multiply_325 ?_
  refine lv_topl (fun v56 ev => ?_)
  have hf := bn ev hf
  clear ev
  refine lv_lload hx hb d_Cu_multiply_326 (lv_at hl 15 rfl) ?_
  refine lv_lload hx hb d_Cu_multiply_328 (lv_at hl 7 rfl) ?_
  refine lv_lmul hx hb d_Cu_multiply_330 ?_
  refine lv_ladd hx hb d_Cu_multiply_331 ?_
  refine lv_topl (fun v57 ev => ?_)
  have hf := bn ev hf
  clear ev
  refine lv_lload hx hb d_Cu_multiply_332 (lv_at hl 14 rfl) ?_
  refine lv_lload hx hb d_Cu_multiply_334 (lv_at hl 8 rfl) ?_
  refine lv_lmul hx hb d_Cu_multiply_336 ?_
  refine lv_ladd hx hb d_Cu_multiply_337 ?_
  refine lv_topl (fun v58 ev => ?_)
  have hf := bn ev hf
  clear ev
  refine lv_lload hx hb d_Cu_multiply_338 (lv_at hl 0 rfl) ?_
  refine lv_bipush (v := 26) hx hb d_Cu_multiply_340 (by decide) ?_
  refine lv_lshr hx hb d_Cu_multiply_342 rfl ?_
  refine lv_ladd hx hb d_Cu_multiply_343 ?_
  refine lv_topl (fun v59 ev => ?_)
  have hf := bn ev hf
  clear ev
  refine lv_lstore (lv' := [(51, .long v59), (49, .long v53), (47, .long v46), (45, .long v38), (43, .long v29), (41, .long v20), (39, .long v19), (37, .long v18), (35, .long v17), (33, .long v16), (31, .long v15), (29, .long v14), (27, .long v13), (25, .long v12), (23, .long v11), (21, .long v10), (19, .long v9), (17, .long v8), (15, .long v7), (13, .long v6), (11, .long v5), (9, .long v4), (7, .long v3), (5, .long v2), (3, .long v1), (0, .ref b0), (1, .ref b0), (2, .ref b0)]) hx hb d_Cu_multiply_344 hl (by decide) rfl (fun ls hl => ?_)
  refine lv_lload hx hb d_Cu_multiply_346 (lv_at hl 18 rfl) ?_
  refine lv_lload hx hb d_Cu_multiply_348 (lv_at hl 5 rfl) ?_
  refine lv_lmul hx hb d_Cu_multiply_350 ?_
  refine lv_topl (fun v60 ev => ?_)
  have hf := bn ev hf
  clear ev
  refine lv_lload hx hb d_Cu_multiply_351 (lv_at hl 17 rfl) ?_
  refine lv_lload hx hb d_Cu_multiply_353 (lv_at hl 6 rfl) ?_
  refine lv_lmul hx hb d_Cu_multiply_355 ?_
  refine lv_ladd hx hb d_Cu_multiply_356 ?_
  refine lv_topl (fun v61 ev => ?_)
  have hf := bn ev hf
  clear ev
  refine lv_lload hx hb d_Cu_multiply_357 (lv_at hl 16 rfl) ?_
  refine lv_lload hx hb d_Cu_multiply_359 (lv_at hl 7 rfl) ?_
  refine lv_lmul hx hb d_Cu_multiply_361 ?_
  refine lv_ladd hx hb d_Cu_multiply_362 ?_
  refine lv_topl (fun v62 ev => ?_)
  have hf := bn ev hf
  clear ev
  refine lv_lload hx hb d_Cu_multiply_363 (lv_at hl 15 rfl) ?_
  refine lv_lload hx hb d_Cu_multiply_365 (lv_at hl 8 rfl) ?_
  refine lv_lmul hx hb d_Cu_multiply_367 ?_
  refine lv_ladd hx hb d_Cu_multiply_368 ?_
  refine lv_topl (fun v63 ev => ?_)
  have hf := bn ev hf
  clear ev
  refine lv_lload hx hb d_Cu_multiply_369 (lv_at hl 0 rfl) ?_
  refine lv_bipush (v := 26) hx hb d_Cu_multiply_371 (by decide) ?_
  refine lv_lshr hx hb d_Cu_multiply_373 rfl ?_
  refine lv_ladd hx hb d_Cu_multiply_374 ?_
  refine lv_topl (fun v64 ev => ?_)
  have hf := bn ev hf
  clear ev
  refine lv_lstore (lv' := [(53, .long v64), (51, .long v59), (49, .long v53), (47, .long v46), (45, .long v38), (43, .long v29), (41, .long v20), (39, .long v19), (37, .long v18), (35, .long v17), (33, .long v16), (31, .long v15), (29, .long v14), (27, .long v13), (25, .long v12), (23, .long v11), (21, .long v10), (19, .long v9), (17, .long v8), (15, .long v7), (13, .long v6), (11, .long v5), (9, .long v4), (7, .long v3), (5, .long v2), (3, .long v1), (0, .ref b0), (1, .ref b0), (2, .ref b0)]) hx hb d_Cu_multiply_375 hl (by decide) rfl (fun ls hl => ?_)
  refine lv_lload hx hb d_Cu_multiply_377 (lv_at hl 18 rfl) ?_
  refine lv_lload hx hb d_Cu_multiply_379 (lv_at hl 6 rfl) ?_
  refine lv_lmul hx hb d_Cu_multiply_381 ?_
  refine lv_topl (fun v65 ev => ?_)
  have hf := bn ev hf
  clear ev
  refine lv_lload hx hb d_Cu_multiply_382 (lv_at hl 17 rfl) ?_
  refine lv_lload hx hb d_Cu_multiply_384 (lv_at hl 7 rfl) ?_
  refine lv_lmul hx hb d_Cu_multiply_386 ?_
  refine lv_ladd hx hb d_Cu_multiply_387 ?_
  refine lv_topl (fun v66 ev => ?_)
  have hf := bn ev hf
  clear ev
  refine lv_lload hx hb d_Cu_multiply_388 (lv_at hl 16 rfl) ?_
  refine lv_lload hx hb d_Cu_multiply_390 (lv_at hl 8 rfl) ?_
  refine lv_lmul hx hb d_Cu_multiply_392 ?_
  refine lv_ladd hx hb d_Cu_multiply_393 ?_
  refine lv_topl (fun v67 ev => ?_)
  have hf := bn ev hf
  clear ev
  refine lv_lload hx hb d_Cu_multiply_394 (lv_at hl 0 rfl) ?_
  refine lv_bipush (v := 26) hx hb d_Cu_multiply_396 (by decide) ?_
  refine lv_lshr hx hb d_Cu_multiply_398 rfl ?_
  refine lv_ladd hx hb d_Cu_multiply_399 ?_
  refine lv_topl (fun v68 ev => ?_)
  have hf := bn ev hf
  clear ev
  refine lv_lstore (lv' := [(55, .long v68), (53, .long v64), (51, .long v59), (49, .long v53), (47, .long v46), (45, .long v38), (43, .long v29), (41, .long v20), (39, .long v19), (37, .long v18), (35, .long v17), (33, .long v16), (31, .long v15), (29, .long v14), (27, .long v13), (25, .long v12), (23, .long v11), (21, .long v10), (19, .long v9), (17, .long v8), (15, .long v7), (13, .long v6), (11, .long v5), (9, .long v4), (7, .long v3), (5, .long v2), (3, .long v1), (0, .ref b0), (1, .ref b0), (2, .ref b0)]) hx hb d_Cu_multiply_400 hl (by decide) rfl (fun ls hl => ?_)
  refine lv_lload hx hb d_Cu_multiply_402 (lv_at hl 18 rfl) ?_
  refine lv_lload hx hb d_Cu_multiply_404 (lv_at hl 7 rfl) ?_
  refine lv_lmul hx hb d_Cu_multiply_406 ?_
  refine lv_topl (fun v69 ev => ?_)
  have hf := bn ev hf
  clear ev
  refine lv_lload hx hb d_Cu_multiply_407 (lv_at hl 17 rfl) ?_
  refine lv_lload hx hb d_Cu_multiply_409 (lv_at hl 8 rfl) ?_
  refine lv_lmul hx hb d_Cu_multiply_411 ?_
  refine lv_ladd hx hb d_Cu_multiply_412 ?_
  refine lv_topl (fun v70 ev => ?_)
  have hf := bn ev hf
  clear ev
  refine lv_lload hx hb d_Cu_multiply_413 (lv_at hl 0 rfl) ?_
  refine lv_bipush (v := 26) hx hb d_Cu_multiply_415 (by decide) ?_
  refine lv_lshr hx hb d_Cu_multiply_417 rfl ?_
  refine lv_ladd hx hb d_Cu_multiply_418 ?_
  refine lv_topl (fun v71 ev => ?_)
  have hf := bn ev hf
  clear ev
  refine lv_lstore (lv' := [(57, .long v71), (55, .long v68), (53, .long v64), (51, .long v59), (49, .long v53), (47, .long v46), (45, .long v38), (43, .long v29), (41, .long v20), (39, .long v19), (37, .long v18), (35, .long v17), (33, .long v16), (31, .long v15), (29, .long v14), (27, .long v13), (25, .long v12), (23, .long v11), (21, .long v10), (19, .long v9), (17, .long v8), (15, .long v7), (13, .long v6), (11, .long v5), (9, .long v4), (7, .long v3), (5, .long v2), (3, .long v1), (0, .ref b0), (1, .ref b0), (2, .ref b0)]) hx hb d_Cu_multiply_419 hl (by decide) rfl (fun ls hl => ?_)
  refine lv_lload hx hb d_Cu_multiply_421 (lv_at hl 18 rfl) ?_
  refine lv_lload hx hb d_Cu_multiply_423 (lv_at hl 8 rfl) ?_
  refine lv_lmul hx hb d_Cu_multiply_425 ?_
  refine lv_topl (fun v72 ev => ?_)
  have hf := bn ev hf
  clear ev
  refine lv_lload hx hb d_Cu_multiply_426 (lv_at hl 0 rfl) ?_
  refine lv_bipush (v := 26) hx hb d_Cu_multiply_428 (by decide) ?_
  refine lv_lshr hx hb d_Cu_multiply_430 rfl ?_
  refine lv_ladd hx hb d_Cu_multiply_431 ?_
  refine lv_topl (fun v73 ev => ?_)
  have hf := bn ev hf
  clear ev
  refine lv_lstore (lv' := [(59, .long v73), (57, .long v71), (55, .long v68), (53, .long v64), (51, .long v59), (49, .long v53), (47, .long v46), (45, .long v38), (43, .long v29), (41, .long v20), (39, .long v19), (37, .long v18), (35, .long v17), (33, .long v16), (31, .long v15), (29, .long v14), (27, .long v13), (25, .long v12), (23, .long v11), (21, .long v10), (19, .long v9), (17, .long v8), (15, .long v7), (13, .long v6), (11, .long v5), (9, .long v4), (7, .long v3), (5, .long v2), (3, .long v1), (0, .ref b0), (1, .ref b0), (2, .ref b0)]) hx hb d_Cu_multiply_432 hl (by decide) rfl (fun ls hl => ?_)
  refine lv_lload hx hb d_Cu_multiply_434 (lv_at hl 0 rfl) ?_
  refine lv_bipush (v := 26) hx hb d_Cu_multiply_436 (by decide) ?_
  refine lv_lshr hx hb d_Cu_multiply_438 rfl ?_
  refine lv_topl (fun v74 ev => ?_)
  have hf := bn ev hf
  clear ev
  refine lv_lstore (lv' := [(61, .long v74), (59, .long v73), (57, .long v71), (55, .long v68), (53, .long v64), (51, .long v59), (49, .long v53), (47, .long v46), (45, .long v38), (43, .long v29), (41, .long v20), (39, .long v19), (37, .long v18), (35, .long v17), (33, .long v16), (31, .long v15), (29, .long v14), (27, .long v13), (25, .long v12), (23, .long v11), (21, .long v10), (19, .long v9), (17, .long v8), (15, .long v7), (13, .long v6), (11, .long v5), (9, .long v4), (7, .long v3), (5, .long v2), (3, .long v1), (0, .ref b0), (1, .ref b0), (2, .ref b0)]) hx hb d_Cu_multiply_439 hl (by decide) rfl (fun ls hl => ?_)
  refine lv_lload hx hb d_Cu_multiply_441 (lv_at hl 9 rfl) ?_
  refine lv_ldc2 (v := 67108863) hx hb hown (hts _ gw_1075) d_Cu_multiply_443 ?_
  refine lv_land hx hb d_Cu_multiply_446 ?_
  refine lv_topl (fun v75 ev => ?_)
  have hf := bn ev hf
  clear ev
  refine lv_lstore (lv' := [(43, .long v75), (61, .long v74), (59, .long v73), (57, .long v71), (55, .long v68), (53, .long v64), (51, .long v59), (49, .long v53), (47, .long v46), (45, .long v38), (41, .long v20), (39, .long v19), (37, .long v18), (35, .long v17), (33, .long v16), (31, .long v15), (29, .long v14), (27, .long v13), (25, .long v12), (23, .long v11), (21, .long v10), (19, .long v9), (17, .long v8), (15, .long v7), (13, .long v6), (11, .long v5), (9, .long v4), (7, .long v3), (5, .long v2), (3, .long v1), (0, .ref b0), (1, .ref b0), (2, .ref b0)]) hx hb d_Cu_multiply_447 hl (by decide) rfl (fun ls hl => ?_)
  refine lv_lload hx hb d_Cu_multiply_449 (lv_at hl 9 rfl) ?_
  refine lv_ldc2 (v := 67108863) hx hb hown (hts _ gw_1075) d_Cu_multiply_451 ?_
  refine lv_land hx hb d_Cu_multiply_454 ?_
  refine lv_topl (fun v76 ev => ?_)
  have hf := bn ev hf
  clear ev
  refine lv_lstore (lv' := [(45, .long v76), (43, .long v75), (61, .long v74), (59, .long v73), (57, .long v71), (55, .long v68), (53, .long v64), (51, .long v59), (49, .long v53), (47, .long v46), (41, .long v20), (39, .long v19), (37, .long v18), (35, .long v17), (33, .long v16), (31, .long v15), (29, .long v14), (27, .long v13), (25, .long v12), (23, .long v11), (21, .long v10), (19, .long v9), (17, .long v8), (15, .long v7), (13, .long v6), (11, .long v5), (9, .long v4), (7, .long v3), (5, .long v2), (3, .long v1), (0, .ref b0), (1, .ref b0), (2, .ref b0)]) hx hb d_Cu_multiply_455 hl (by decide) rfl (fun ls hl => ?_)
  refine lv_lload hx hb d_Cu_multiply_457 (lv_at hl 9 rfl) ?_
  refine lv_ldc2 (v := 67108863) hx hb hown (hts _ gw_1075) d_Cu_multiply_459 ?_
  refine lv_land hx hb d_Cu_multiply_462 ?_
  refine lv_topl (fun v77 ev => ?_)
  have hf := bn ev hf
  clear ev
  refine lv_lstore (lv' := [(47, .long v77), (45, .long v76), (43, .long v75), (61, .long v74), (59, .long v73), (57, .long v71), (55, .long v68), (53, .long v64), (51, .long v59), (49, .long v53), (41, .long v20), (39, .long v19), (37, .long v18), (35, .long v17), (33, .long v16), (31, .long v15), (29, .long v14), (27, .long v13), (25, .long v12), (23, .long v11), (21, .long v10), (19, .long v9), (17, .long v8), (15, .long v7), (13, .long v6), (11, .long v5), (9, .long v4), (7, .long v3), (5, .long v2), (3, .long v1), (0, .ref b0), (1, .ref b0), (2, .ref b0)]) hx hb d_Cu_multiply_463 hl (by decide) rfl (fun ls hl => ?_)
  refine lv_lload hx hb d_Cu_multiply_465 (lv_at hl 9 rfl) ?_
  refine lv_ldc2 (v := 67108863) hx hb hown (hts _ gw_1075) d_Cu_multiply_467 ?_
  refine lv_land hx hb d_Cu_multiply_470 ?_
  refine lv_topl (fun v78 ev => ?_)
  have hf := bn ev hf
  clear ev
  refine lv_lstore (lv' := [(49, .long v78), (47, .long v77), (45, .long v76), (43, .long v75), (61, .long v74), (59, .long v73), (57, .long v71), (55, .long v68), (53, .long v64), (51, .long v59), (41, .long v20), (39, .long v19), (37, .long v18), (35, .long v17), (33, .long v16), (31, .long v15), (29, .long v14), (27, .long v13), (25, .long v12), (23, .long v11), (21, .long v10), (19, .long v9), (17, .long v8), (15, .long v7), (13, .long v6), (11, .long v5), (9, .long v4), (7, .long v3), (5, .long v2), (3, .long v1), (0, .ref b0), (1, .ref b0), (2, .ref b0)]) hx hb d_Cu_multiply_471 hl (by decide) rfl (fun ls hl => ?_)
  refine lv_lload hx hb d_Cu_multiply_473 (lv_at hl 9 rfl) ?_
  refine lv_ldc2 (v := 67108863) hx hb hown (hts _ gw_1075) d_Cu_multiply_475 ?_
  refine lv_land hx hb d_Cu_multiply_478 ?_
  refine lv_topl (fun v79 ev => ?_)
  have hf := bn ev hf
  clear ev
  refine lv_lstore (lv' := [(51, .long v79), (49, .long v78), (47, .long v77), (45, .long v76), (43, .long v75), (61, .long v74), (59, .long v73), (57, .long v71), (55, .long v68), (53, .long v64), (41, .long v20), (39, .long v19), (37, .long v18), (35, .long v17), (33, .long v16), (31, .long v15), (29, .long v14), (27, .long v13), (25, .long v12), (23, .long v11), (21, .long v10), (19, .long v9), (17, .long v8), (15, .long v7), (13, .long v6), (11, .long v5), (9, .long v4), (7, .long v3), (5, .long v2), (3, .long v1), (0, .ref b0), (1, .ref b0), (2, .ref b0)]) hx hb d_Cu_multiply_479 hl (by decide) rfl (fun ls hl => ?_)
  refine lv_lload hx hb d_Cu_multiply_481 (lv_at hl 9 rfl) ?_
  refine lv_ldc2 (v := 67108863) hx hb hown (hts _ gw_1075) d_Cu_multiply_483 ?_
  refine lv_land hx hb d_Cu_multiply_486 ?_
  refine lv_topl (fun v80 ev => ?_)
  have hf := bn ev hf
  clear ev
  refine lv_lstore (lv' := [(53, .long v80), (51, .long v79), (49, .long v78), (47, .long v77), (45, .long v76), (43, .long v75), (61, .long v74), (59, .long v73), (57, .long v71), (55, .long v68), (41, .long v20), (39, .long v19), (37, .long v18), (35, .long v17), (33, .long v16), (31, .long v15), (29, .long v14), (27, .long v13), (25, .long v12), (23, .long v11), (21, .long v10), (19, .long v9), (17, .long v8), (15, .long v7), (13, .long v6), (11, .long v5), (9, .long v4), (7, .long v3), (5, .long v2), (3, .long v1), (0, .ref b0), (1, .ref b0), (2, .ref b0)]) hx hb d_Cu_multiply_487 hl (by decide) rfl (fun ls hl => ?_)
  refine lv_lload hx hb d_Cu_multiply_489 (lv_at hl 9 rfl) ?_
  refine lv_ldc2 (v := 67108863) hx hb hown (hts _ gw_1075) d_Cu_multiply_491 ?_
  refine lv_land hx hb d_Cu_multiply_494 ?_
  refine lv_topl (fun v81 ev => ?_)
  have hf := bn ev hf
  clear ev
  refine lv_lstore (lv' := [(55, .long v81), (53, .long v80), (51, .long v79), (49, .long v78), (47, .long v77), (45, .long v76), (43, .long v75), (61, .long v74), (59, .long v73), (57, .long v71), (41, .long v20), (39, .long v19), (37, .long v18), (35, .long v17), (33, .long v16), (31, .long v15), (29, .long v14), (27, .long v13), (25, .long v12), (23, .long v11), (21, .long v10), (19, .long v9), (17, .long v8), (15, .long v7), (13, .long v6), (11, .long v5), (9, .long v4), (7, .long v3), (5, .long v2), (3, .long v1), (0, .ref b0), (1, .ref b0), (2, .ref b0)]) hx hb d_Cu_multiply_495 hl (by decide) rfl (fun ls hl => ?_)
  refine lv_lload hx hb d_Cu_multiply_497 (lv_at hl 9 rfl) ?_
  refine lv_ldc2 (v := 67108863) hx hb hown (hts _ gw_1075) d_Cu_multiply_499 ?_
  refine lv_land hx hb d_Cu_multiply_502 ?_
  refine lv_topl (fun v82 ev => ?_)
  have hf := bn ev hf
  clear ev
  refine lv_lstore (lv' := [(57, .long v82), (55, .long v81), (53, .long v80), (51, .long v79), (49, .long v78), (47, .long v77), (45, .long v76), (43, .long v75), (61, .long v74), (59, .long v73), (41, .long v20), (39, .long v19), (37, .long v18), (35, .long v17), (33, .long v16), (31, .long v15), (29, .long v14), (27, .long v13), (25, .long v12), (23, .long v11), (21, .long v10), (19, .long v9), (17, .long v8), (15, .long v7), (13, .long v6), (11, .long v5), (9, .long v4), (7, .long v3), (5, .long v2), (3, .long v1), (0, .ref b0), (1, .ref b0), (2, .ref b0)]) hx hb d_Cu_multiply_503 hl (by decide) rfl (fun ls hl => ?_)
  refine lv_lload hx hb d_Cu_multiply_505 (lv_at hl 9 rfl) ?_
  refine lv_ldc2 (v := 67108863) hx hb hown (hts _ gw_1075) d_Cu_multiply_507 ?_
  refine lv_land hx hb d_Cu_multiply_510 ?_
  refine lv_topl (fun v83 ev => ?_)
  have hf := bn ev hf
  clear ev
  refine lv_lstore (lv' := [(59, .long v83), (57, .long v82), (55, .long v81), (53, .long v80), (51, .long v79), (49, .long v78), (47, .long v77), (45, .long v76), (43, .long v75), (61, .long v74), (41, .long v20), (39, .long v19), (37, .long v18), (35, .long v17), (33, .long v16), (31, .long v15), (29, .long v14), (27, .long v13), (25, .long v12), (23, .long v11), (21, .long v10), (19, .long v9), (17, .long v8), (15, .long v7), (13, .long v6), (11, .long v5), (9, .long v4), (7, .long v3), (5, .long v2), (3, .long v1), (0, .ref b0), (1, .ref b0), (2, .ref b0)]) hx hb d_Cu_multiply_511 hl (by decide) rfl (fun ls hl => ?_)
  refine lv_aload_n hx hb d_Cu_multiply_513 rfl (lv_at hl 32 rfl) ?_
  refine lv_iconst (v := 0) hx hb d_Cu_multiply_514 (by decide) ?_
  refine lv_lload_n hx hb d_Cu_multiply_515 rfl (lv_at hl 29 rfl) ?_
  refine lv_lload hx hb d_Cu_multiply_516 (lv_at hl 19 rfl) ?_
  refine lv_lmul hx hb d_Cu_multiply_518 ?_
  refine lv_topl (fun v84 ev => ?_)
  have hf := bn ev hf
  clear ev
  refine lv_lload hx hb d_Cu_multiply_519 (lv_at hl 8 rfl) ?_
  refine lv_ldc2 (v := 15632) hx hb hown (hts _ gw_1079) d_Cu_multiply_521 ?_
  refine lv_lmul hx hb d_Cu_multiply_524 ?_
  refine lv_ladd hx hb d_Cu_multiply_525 ?_
  refine lv_topl (fun v85 ev => ?_)
  have hf := bn ev hf
  clear ev
  refine lv_lload hx hb d_Cu_multiply_526 (lv_at hl 9 rfl) ?_
  refine lv_ldc2 (v := 16007168) hx hb hown (hts _ gw_1080) d_Cu_multiply_528 ?_
  refine lv_lmul hx hb d_Cu_multiply_531 ?_
  refine lv_ladd hx hb d_Cu_multiply_532 ?_
  refine lv_topl (fun v86 ev => ?_)
  have hf := bn ev hf
  clear ev
  refine va_last hx hb hK hP hD hS 0 2 rfl rfl (inb_in (by decide)) d_Cu_multiply_533 (fun H locs hP hD hS => ?_)
  obtain ⟨f87, ev, hf⟩ := bne hf
  have hP : va_P D classes [(b0, .inl (cy 2, 10, .inr (.inl f87)))] H := by rw [ev]; exact hP
  have hD : va_D A [(b0, .inl (cy 2, 10, .inr (.inl f87)))] := by rw [ev]; exact hD
  clear ev
  refine lv_aload_n hx hb d_Cu_multiply_534 rfl (lv_at hl 32 rfl) ?_
  refine lv_iconst (v := 1) hx hb d_Cu_multiply_535 (by decide) ?_
  refine lv_lload_n hx hb d_Cu_multiply_536 rfl (lv_at hl 29 rfl) ?_
  refine lv_lload hx hb d_Cu_multiply_537 (lv_at hl 18 rfl) ?_
  refine lv_lmul hx hb d_Cu_multiply_539 ?_
  refine lv_topl (fun v88 ev => ?_)
  have hf := bn ev hf
  clear ev
  refine lv_lload hx hb d_Cu_multiply_540 (lv_at hl 28 rfl) ?_
  refine lv_lload hx hb d_Cu_multiply_542 (lv_at hl 19 rfl) ?_
  refine lv_lmul hx hb d_Cu_multiply_544 ?_
  refine lv_ladd hx hb d_Cu_multiply_545 ?_
  refine lv_topl (fun v89 ev => ?_)
  have hf := bn ev hf
  clear ev
  refine lv_lload hx hb d_Cu_multiply_546 (lv_at hl 7 rfl) ?_
  refine lv_ldc2 (v := 15632) hx hb hown (hts _ gw_1079) d_Cu_multiply_548 ?_
  refine lv_lmul hx hb d_Cu_multiply_551 ?_
  refine lv_ladd hx hb d_Cu_multiply_552 ?_
  refine lv_topl (fun v90 ev => ?_)
  have hf := bn ev hf
  clear ev
  refine lv_lload hx hb d_Cu_multiply_553 (lv_at hl 8 rfl) ?_
  refine lv_ldc2 (v := 1024) hx hb hown (hts _ gw_1081) d_Cu_multiply_555 ?_
  refine lv_lmul hx hb d_Cu_multiply_558 ?_
  refine lv_ladd hx hb d_Cu_multiply_559 ?_
  refine lv_topl (fun v91 ev => ?_)
  have hf := bn ev hf
  clear ev
  refine lv_lload hx hb d_Cu_multiply_560 (lv_at hl 9 rfl) ?_
  refine lv_ldc2 (v := 1048576) hx hb hown (hts _ gw_1082) d_Cu_multiply_562 ?_
  refine lv_lmul hx hb d_Cu_multiply_565 ?_
  refine lv_ladd hx hb d_Cu_multiply_566 ?_
  refine lv_topl (fun v92 ev => ?_)
  have hf := bn ev hf
  clear ev
  refine va_last hx hb hK hP hD hS 0 2 rfl rfl (inb_in (by decide)) d_Cu_multiply_567 (fun H locs hP hD hS => ?_)
  obtain ⟨f93, ev, hf⟩ := bne hf
  have hP : va_P D classes [(b0, .inl (cy 2, 10, .inr (.inl f93)))] H := by rw [ev]; exact hP
  have hD : va_D A [(b0, .inl (cy 2, 10, .inr (.inl f93)))] := by rw [ev]; exact hD
  clear ev
  refine lv_aload_n hx hb d_Cu_multiply_568 rfl (lv_at hl 32 rfl) ?_
  refine lv_iconst (v := 2) hx hb d_Cu_multiply_569 (by decide) ?_
  refine lv_lload_n hx hb d_Cu_multiply_570 rfl (lv_at hl 29 rfl) ?_
  refine lv_lload hx hb d_Cu_multiply_571 (lv_at hl 17 rfl) ?_
  refine lv_lmul hx hb d_Cu_multiply_573 ?_
  refine lv_topl (fun v94 ev => ?_)
  have hf := bn ev hf
  clear ev
  refine lv_lload hx hb d_Cu_multiply_574 (lv_at hl 28 rfl) ?_
  refine lv_lload hx hb d_Cu_multiply_576 (lv_at hl 18 rfl) ?_
  refine lv_lmul hx hb d_Cu_multiply_578 ?_
  refine lv_ladd hx hb d_Cu_multiply_579 ?_
  refine lv_topl (fun v95 ev => ?_)
  have hf := bn ev hf
  clear ev
  refine lv_lload hx hb d_Cu_multiply_580 (lv_at hl 27 rfl) ?_
  refine lv_lload hx hb d_Cu_multiply_582 (lv_at hl 19 rfl) ?_
  refine lv_lmul hx hb d_Cu_multiply_584 ?_
  refine lv_ladd hx hb d_Cu_multiply_585 ?_
  refine lv_topl (fun v96 ev => ?_)
  have hf := bn ev hf
  clear ev
  refine lv_lload hx hb d_Cu_multiply_586 (lv_at hl 6 rfl) ?_
  refine lv_ldc2 (v := 15632) hx hb hown (hts _ gw_1079) d_Cu_multiply_588 ?_
  refine lv_lmul hx hb d_Cu_multiply_591 ?_
  refine lv_ladd hx hb d_Cu_multiply_592 ?_
  refine lv_topl (fun v97 ev => ?_)
  have hf := bn ev hf
  clear ev
  refine lv_lload hx hb d_Cu_multiply_593 (lv_at hl 7 rfl) ?_
  refine lv_ldc2 (v := 1024) hx hb hown (hts _ gw_1081) d_Cu_multiply_595 ?_
  refine lv_lmul hx hb d_Cu_multiply_598 ?_
  refine lv_ladd hx hb d_Cu_multiply_599 ?_
  refine lv_topl (fun v98 ev => ?_)
  have hf := bn ev hf
  clear ev
  refine va_last hx hb hK hP hD hS 0 2 rfl rfl (inb_in (by decide)) d_Cu_multiply_600 (fun H locs hP hD hS => ?_)
  obtain ⟨f99, ev, hf⟩ := bne hf
  have hP : va_P D classes [(b0, .inl (cy 2, 10, .inr (.inl f99)))] H := by rw [ev]; exact hP
  have hD : va_D A [(b0, .inl (cy 2, 10, .inr (.inl f99)))] := by rw [ev]; exact hD
  clear ev
  refine lv_aload_n hx hb d_Cu_multiply_601 rfl (lv_at hl 32 rfl) ?_
  refine lv_iconst (v := 3) hx hb d_Cu_multiply_602 (by decide) ?_
  refine lv_lload_n hx hb d_Cu_multiply_603 rfl (lv_at hl 29 rfl) ?_
  refine lv_lload hx hb d_Cu_multiply_604 (lv_at hl 16 rfl) ?_
  refine lv_lmul hx hb d_Cu_multiply_606 ?_
  refine lv_topl (fun v100 ev => ?_)
  have hf := bn ev hf
  clear ev
  refine lv_lload hx hb d_Cu_multiply_607 (lv_at hl 28 rfl) ?_
  refine lv_lload hx hb d_Cu_multiply_609 (lv_at hl 17 rfl) ?_
  refine lv_lmul hx hb d_Cu_multiply_611 ?_
  refine lv_ladd hx hb d_Cu_multiply_612 ?_
  refine lv_topl (fun v101 ev => ?_)
  have hf := bn ev hf
  clear ev
  refine lv_lload hx hb d_Cu_multiply_613 (lv_at hl 27 rfl) ?_
  refine lv_lload hx hb d_Cu_multiply_615 (lv_at hl 18 rfl) ?_
  refine lv_lmul hx hb d_Cu_multiply_617 ?_
  refine lv_ladd hx hb d_Cu_multiply_618 ?_
  refine lv_topl (fun v102 ev => ?_)
  have hf := bn ev hf
  clear ev
  refine lv_lload hx hb d_Cu_multiply_619 (lv_at hl 26 rfl) ?_
  refine lv_lload hx hb d_Cu_multiply_621 (lv_at hl 19 rfl) ?_
  refine lv_lmul hx hb d_Cu_multiply_623 ?_
  refine lv_ladd hx hb d_Cu_multiply_624 ?_
  refine lv_topl (fun v103 ev => ?_)
  have hf := bn ev hf
  clear ev
  refine lv_lload hx hb d_Cu_multiply_625 (lv_at hl 5 rfl) ?_
  refine lv_ldc2 (v := 15632) hx hb hown (hts _ gw_1079) d_Cu_multiply_627 ?_
  refine lv_lmul hx hb d_Cu_multiply_630 ?_
  refine lv_ladd hx hb d_Cu_multiply_631 ?_
  refine lv_topl (fun v104 ev => ?_)
  have hf := bn ev hf
  clear ev
  refine lv_lload hx hb d_Cu_multiply_632 (lv_at hl 6 rfl) ?_
  refine lv_ldc2 (v := 1024) hx hb hown (hts _ gw_1081) d_Cu_multiply_634 ?_
  refine lv_lmul hx hb d_Cu_multiply_637 ?_
  refine lv_ladd hx hb d_Cu_multiply_638 ?_
  refine lv_topl (fun v105 ev => ?_)
  have hf := bn ev hf
  clear ev
  refine va_last hx hb hK hP hD hS 0 2 rfl rfl (inb_in (by decide)) d_Cu_multiply_639 (fun H locs hP hD hS => ?_)
  obtain ⟨f106, ev, hf⟩ := bne hf
  have hP : va_P D classes [(b0, .inl (cy 2, 10, .inr (.inl f106)))] H := by rw [ev]; exact hP
  have hD : va_D A [(b0, .inl (cy 2, 10, .inr (.inl f106)))] := by rw [ev]; exact hD
  clear ev
  refine lv_aload_n hx hb d_Cu_multiply_640 rfl (lv_at hl 32 rfl) ?_
  refine lv_iconst (v := 4) hx hb d_Cu_multiply_641 (by decide) ?_
  refine lv_lload_n hx hb d_Cu_multiply_642 rfl (lv_at hl 29 rfl) ?_
  refine lv_lload hx hb d_Cu_multiply_643 (lv_at hl 15 rfl) ?_
  refine lv_lmul hx hb d_Cu_multiply_645 ?_
  refine lv_topl (fun v107 ev => ?_)
  have hf := bn ev hf
  clear ev
  refine lv_lload hx hb d_Cu_multiply_646 (lv_at hl 28 rfl) ?_
  refine lv_lload hx hb d_Cu_multiply_648 (lv_at hl 16 rfl) ?_
  refine lv_lmul hx hb d_Cu_multiply_650 ?_
  refine lv_ladd hx hb d_Cu_multiply_651 ?_
  refine lv_topl (fun v108 ev => ?_)
  have hf := bn ev hf
  clear ev
  refine lv_lload hx hb d_Cu_multiply_652 (lv_at hl 27 rfl) ?_
  refine lv_lload hx hb d_Cu_multiply_654 (lv_at hl 17 rfl) ?_
  refine lv_lmul hx hb d_Cu_multiply_656 ?_
  refine lv_ladd hx hb d_Cu_multiply_657 ?_
  refine lv_topl (fun v109 ev => ?_)
  have hf := bn ev hf
  clear ev
  refine lv_lload hx hb d_Cu_multiply_658 (lv_at hl 26 rfl) ?_
  refine lv_lload hx hb d_Cu_multiply_660 (lv_at hl 18 rfl) ?_
  refine lv_lmul hx hb d_Cu_multiply_662 ?_
  refine lv_ladd hx hb d_Cu_multiply_663 ?_
  refine lv_topl (fun v110 ev => ?_)
  have hf := bn ev hf
  clear ev
  refine lv_lload hx hb d_Cu_multiply_664 (lv_at hl 25 rfl) ?_
  refine lv_lload hx hb d_Cu_multiply_666 (lv_at hl 19 rfl) ?_
  refine lv_lmul hx hb d_Cu_multiply_668 ?_
  refine lv_ladd hx hb d_Cu_multiply_669 ?_
  refine lv_topl (fun v111 ev => ?_)
  have hf := bn ev hf
  clear ev
  refine lv_lload hx hb d_Cu_multiply_670 (lv_at hl 4 rfl) ?_
  refine lv_ldc2 (v := 15632) hx hb hown (hts _ gw_1079) d_Cu_multiply_672 ?_
  refine lv_lmul hx hb d_Cu_multiply_675 ?_
  refine lv_ladd hx hb d_Cu_multiply_676 ?_
  refine lv_topl (fun v112 ev => ?_)
  have hf := bn ev hf
  clear ev
  refine lv_lload hx hb d_Cu_multiply_677 (lv_at hl 5 rfl) ?_
  refine lv_ldc2 (v := 1024) hx hb hown (hts _ gw_1081) d_Cu_multiply_679 ?_
  refine lv_lmul hx hb d_Cu_multiply_682 ?_
  refine lv_ladd hx hb d_Cu_multiply_683 ?_
  refine lv_topl (fun v113 ev => ?_)
  have hf := bn ev hf
  clear ev
  refine va_last hx hb hK hP hD hS 0 2 rfl rfl (inb_in (by decide)) d_Cu_multiply_684 (fun H locs hP hD hS => ?_)
  obtain ⟨f114, ev, hf⟩ := bne hf
  have hP : va_P D classes [(b0, .inl (cy 2, 10, .inr (.inl f114)))] H := by rw [ev]; exact hP
  have hD : va_D A [(b0, .inl (cy 2, 10, .inr (.inl f114)))] := by rw [ev]; exact hD
  clear ev
  refine lv_aload_n hx hb d_Cu_multiply_685 rfl (lv_at hl 32 rfl) ?_
  refine lv_iconst (v := 5) hx hb d_Cu_multiply_686 (by decide) ?_
  refine lv_lload_n hx hb d_Cu_multiply_687 rfl (lv_at hl 29 rfl) ?_
  refine lv_lload hx hb d_Cu_multiply_688 (lv_at hl 14 rfl) ?_
  refine lv_lmul hx hb d_Cu_multiply_690 ?_
  refine lv_topl (fun v115 ev => ?_)
  have hf := bn ev hf
  clear ev
  refine lv_lload hx hb d_Cu_multiply_691 (lv_at hl 28 rfl) ?_
  refine lv_lload hx hb d_Cu_multiply_693 (lv_at hl 15 rfl) ?_
  refine lv_lmul hx hb d_Cu_multiply_695 ?_
  refine lv_ladd hx hb d_Cu_multiply_696 ?_
  refine lv_topl (fun v116 ev => ?_)
  have hf := bn ev hf
  clear ev
  refine lv_lload hx hb d_Cu_multiply_697 (lv_at hl 27 rfl) ?_
  refine lv_lload hx hb d_Cu_multiply_699 (lv_at hl 16 rfl) ?_
  refine lv_lmul hx hb d_Cu_multiply_701 ?_
  refine lv_ladd hx hb d_Cu_multiply_702 ?_
  refine lv_topl (fun v117 ev => ?_)
  have hf := bn ev hf
  clear ev
  refine lv_lload hx hb d_Cu_multiply_703 (lv_at hl 26 rfl) ?_
  refine lv_lload hx hb d_Cu_multiply_705 (lv_at hl 17 rfl) ?_
  refine lv_lmul hx hb d_Cu_multiply_707 ?_
  refine lv_ladd hx hb d_Cu_multiply_708 ?_
  refine lv_topl (fun v118 ev => ?_)
  have hf := bn ev hf
  clear ev
  refine lv_lload hx hb d_Cu_multiply_709 (lv_at hl 25 rfl) ?_
  refine lv_lload hx hb d_Cu_multiply_711 (lv_at hl 18 rfl) ?_
  refine lv_lmul hx hb d_Cu_multiply_713 ?_
  refine lv_ladd hx hb d_Cu_multiply_714 ?_
  refine lv_topl (fun v119 ev => ?_)
  have hf := bn ev hf
  clear ev
  refine lv_lload hx hb d_Cu_multiply_715 (lv_at hl 24 rfl) ?_
  refine lv_lload hx hb d_Cu_multiply_717 (lv_at hl 19 rfl) ?_
  refine lv_lmul hx hb d_Cu_multiply_719 ?_
  refine lv_ladd hx hb d_Cu_multiply_720 ?_
  refine lv_topl (fun v120 ev => ?_)
  have hf := bn ev hf
  clear ev
  refine lv_lload hx hb d_Cu_multiply_721 (lv_at hl 3 rfl) ?_
  refine lv_ldc2 (v := 15632) hx hb hown (hts _ gw_1079) d_Cu_multiply_723 ?_
  refine lv_lmul hx hb d_Cu_multiply_726 ?_
  refine lv_ladd hx hb d_Cu_multiply_727 ?_
  refine lv_topl (fun v121 ev => ?_)
  have hf := bn ev hf
  clear ev
  refine lv_lload hx hb d_Cu_multiply_728 (lv_at hl 4 rfl) ?_
  refine lv_ldc2 (v := 1024) hx hb hown (hts _ gw_1081) d_Cu_multiply_730 ?_
  refine lv_lmul hx hb d_Cu_multiply_733 ?_
  refine lv_ladd hx hb d_Cu_multiply_734 ?_
  refine lv_topl (fun v122 ev => ?_)
  have hf := bn ev hf
  clear ev
  refine va_last hx hb hK hP hD hS 0 2 rfl rfl (inb_in (by decide)) d_Cu_multiply_735 (fun H locs hP hD hS => ?_)
  obtain ⟨f123, ev, hf⟩ := bne hf
  have hP : va_P D classes [(b0, .inl (cy 2, 10, .inr (.inl f123)))] H := by rw [ev]; exact hP
  have hD : va_D A [(b0, .inl (cy 2, 10, .inr (.inl f123)))] := by rw [ev]; exact hD
  clear ev
  refine lv_aload_n hx hb d_Cu_multiply_736 rfl (lv_at hl 32 rfl) ?_
  refine lv_bipush (v := 6) hx hb d_Cu_multiply_737 (by decide) ?_
  refine lv_lload_n hx hb d_Cu_multiply_739 rfl (lv_at hl 29 rfl) ?_
  refine lv_lload hx hb d_Cu_multiply_740 (lv_at hl 13 rfl) ?_
  refine lv_lmul hx hb d_Cu_multiply_742 ?_
  refine lv_topl (fun v124 ev => ?_)
  have hf := bn ev hf
  clear ev
  refine lv_lload hx hb d_Cu_multiply_743 (lv_at hl 28 rfl) ?_
  refine lv_lload hx hb d_Cu_multiply_745 (lv_at hl 14 rfl) ?_
  refine lv_lmul hx hb d_Cu_multiply_747 ?_
  refine lv_ladd hx hb d_Cu_multiply_748 ?_
  refine lv_topl (fun v125 ev => ?_)
  have hf := bn ev hf
  clear ev
  refine lv_lload hx hb d_Cu_multiply_749 (lv_at hl 27 rfl) ?_
  refine lv_lload hx hb d_Cu_multiply_751 (lv_at hl 15 rfl) ?_
  refine lv_lmul hx hb d_Cu_multiply_753 ?_
  refine lv_ladd hx hb d_Cu_multiply_754 ?_
  refine lv_topl (fun v126 ev => ?_)
  have hf := bn ev hf
  clear ev
  refine lv_lload hx hb d_Cu_multiply_755 (lv_at hl 26 rfl) ?_
  refine lv_lload hx hb d_Cu_multiply_757 (lv_at hl 16 rfl) ?_
  refine lv_lmul hx hb d_Cu_multiply_759 ?_
  refine lv_ladd hx hb d_Cu_multiply_760 ?_
  refine lv_topl (fun v127 ev => ?_)
  have hf := bn ev hf
  clear ev
  refine lv_lload hx hb d_Cu_multiply_761 (lv_at hl 25 rfl) ?_
  refine lv_lload hx hb d_Cu_multiply_763 (lv_at hl 17 rfl) ?_
  refine lv_lmul hx hb d_Cu_multiply_765 ?_
  refine lv_ladd hx hb d_Cu_multiply_766 ?_
  refine lv_topl (fun v128 ev => ?_)
  have hf := bn ev hf
  clear ev
  refine lv_lload hx hb d_Cu_multiply_767 (lv_at hl 24 rfl) ?_
  refine lv_lload hx hb d_Cu_multiply_769 (lv_at hl 18 rfl) ?_
  refine lv_lmul hx hb d_Cu_multiply_771 ?_
  refine lv_ladd hx hb d_Cu_multiply_772 ?_
  refine lv_topl (fun v129 ev => ?_)
  have hf := bn ev hf
  clear ev
  refine lv_lload hx hb d_Cu_multiply_773 (lv_at hl 23 rfl) ?_
  refine lv_lload hx hb d_Cu_multiply_775 (lv_at hl 19 rfl) ?_
  refine lv_lmul hx hb d_Cu_multiply_777 ?_
  refine lv_ladd hx hb d_Cu_multiply_778 ?_
  refine lv_topl (fun v130 ev => ?_)
  have hf := bn ev hf
  clear ev
  refine lv_lload hx hb d_Cu_multiply_779 (lv_at hl 2 rfl) ?_
  refine lv_ldc2 (v := 15632) hx hb hown (hts _ gw_1079) d_Cu_multiply_781 ?_
  refine lv_lmul hx hb d_Cu_multiply_784 ?_
  refine lv_ladd hx hb d_Cu_multiply_785 ?_
  refine lv_topl (fun v131 ev => ?_)
  have hf := bn ev hf
  clear ev
  refine lv_lload hx hb d_Cu_multiply_786 (lv_at hl 3 rfl) ?_
  refine lv_ldc2 (v := 1024) hx hb hown (hts _ gw_1081) d_Cu_multiply_788 ?_
  refine lv_lmul hx hb d_Cu_multiply_791 ?_
  refine lv_ladd hx hb d_Cu_multiply_792 ?_
  refine lv_topl (fun v132 ev => ?_)
  have hf := bn ev hf
  clear ev
  refine va_last hx hb hK hP hD hS 0 2 rfl rfl (inb_in (by decide)) d_Cu_multiply_793 (fun H locs hP hD hS => ?_)
  obtain ⟨f133, ev, hf⟩ := bne hf
  have hP : va_P D classes [(b0, .inl (cy 2, 10, .inr (.inl f133)))] H := by rw [ev]; exact hP
  have hD : va_D A [(b0, .inl (cy 2, 10, .inr (.inl f133)))] := by rw [ev]; exact hD
  clear ev
  refine lv_aload_n hx hb d_Cu_multiply_794 rfl (lv_at hl 32 rfl) ?_
  refine lv_bipush (v := 7) hx hb d_Cu_multiply_795 (by decide) ?_
  refine lv_lload_n hx hb d_Cu_multiply_797 rfl (lv_at hl 29 rfl) ?_
  refine lv_lload hx hb d_Cu_multiply_798 (lv_at hl 12 rfl) ?_
  refine lv_lmul hx hb d_Cu_multiply_800 ?_
  refine lv_topl (fun v134 ev => ?_)
  have hf := bn ev hf
  clear ev
  refine lv_lload hx hb d_Cu_multiply_801 (lv_at hl 28 rfl) ?_
  refine lv_lload hx hb d_Cu_multiply_803 (lv_at hl 13 rfl) ?_
  refine lv_lmul hx hb d_Cu_multiply_805 ?_
  refine lv_ladd hx hb d_Cu_multiply_806 ?_
  refine lv_topl (fun v135 ev => ?_)
  have hf := bn ev hf
  clear ev
  refine lv_lload hx hb d_Cu_multiply_807 (lv_at hl 27 rfl) ?_
  refine lv_lload hx hb d_Cu_multiply_809 (lv_at hl 14 rfl) ?_
  refine lv_lmul hx hb d_Cu_multiply_811 ?_
  refine lv_ladd hx hb d_Cu_multiply_812 ?_
  refine lv_topl (fun v136 ev => ?_)
  have hf := bn ev hf
  clear ev
  refine lv_lload hx hb d_Cu_multiply_813 (lv_at hl 26 rfl) ?_
  refine lv_lload hx hb d_Cu_multiply_815 (lv_at hl 15 rfl) ?_
  refine lv_lmul hx hb d_Cu_multiply_817 ?_
  refine lv_ladd hx hb d_Cu_multiply_818 ?_
  refine lv_topl (fun v137 ev => ?_)
  have hf := bn ev hf
  clear ev
  refine lv_lload hx hb d_Cu_multiply_819 (lv_at hl 25 rfl) ?_
  refine lv_lload hx hb d_Cu_multiply_821 (lv_at hl 16 rfl) ?_
  refine lv_lmul hx hb d_Cu_multiply_823 ?_
  refine lv_ladd hx hb d_Cu_multiply_824 ?_
  refine lv_topl (fun v138 ev => ?_)
  have hf := bn ev hf
  clear ev
  refine lv_lload hx hb d_Cu_multiply_825 (lv_at hl 24 rfl) ?_
  refine lv_lload hx hb d_Cu_multiply_827 (lv_at hl 17 rfl) ?_
  refine lv_lmul hx hb d_Cu_multiply_829 ?_
  refine lv_ladd hx hb d_Cu_multiply_830 ?_
  refine lv_topl (fun v139 ev => ?_)
  have hf := bn ev hf
  clear ev
  refine lv_lload hx hb d_Cu_multiply_831 (lv_at hl 23 rfl) ?_
  refine lv_lload hx hb d_Cu_multiply_833 (lv_at hl 18 rfl) ?_
  refine lv_lmul hx hb d_Cu_multiply_835 ?_
  refine lv_ladd hx hb d_Cu_multiply_836 ?_
  refine lv_topl (fun v140 ev => ?_)
  have hf := bn ev hf
  clear ev
  refine lv_lload hx hb d_Cu_multiply_837 (lv_at hl 22 rfl) ?_
  refine lv_lload hx hb d_Cu_multiply_839 (lv_at hl 19 rfl) ?_
  refine lv_lmul hx hb d_Cu_multiply_841 ?_
  refine lv_ladd hx hb d_Cu_multiply_842 ?_
  refine lv_topl (fun v141 ev => ?_)
  have hf := bn ev hf
  clear ev
  refine lv_lload hx hb d_Cu_multiply_843 (lv_at hl 1 rfl) ?_
  refine lv_ldc2 (v := 15632) hx hb hown (hts _ gw_1079) d_Cu_multiply_845 ?_
  refine lv_lmul hx hb d_Cu_multiply_848 ?_
  refine lv_ladd hx hb d_Cu_multiply_849 ?_
  refine lv_topl (fun v142 ev => ?_)
  have hf := bn ev hf
  clear ev
  refine lv_lload hx hb d_Cu_multiply_850 (lv_at hl 2 rfl) ?_
  refine lv_ldc2 (v := 1024) hx hb hown (hts _ gw_1081) d_Cu_multiply_852 ?_
  refine lv_lmul hx hb d_Cu_multiply_855 ?_
  refine lv_ladd hx hb d_Cu_multiply_856 ?_
  refine lv_topl (fun v143 ev => ?_)
  have hf := bn ev hf
  clear ev
  refine va_last hx hb hK hP hD hS 0 2 rfl rfl (inb_in (by decide)) d_Cu_multiply_857 (fun H locs hP hD hS => ?_)
  obtain ⟨f144, ev, hf⟩ := bne hf
  have hP : va_P D classes [(b0, .inl (cy 2, 10, .inr (.inl f144)))] H := by rw [ev]; exact hP
  have hD : va_D A [(b0, .inl (cy 2, 10, .inr (.inl f144)))] := by rw [ev]; exact hD
  clear ev
  refine lv_aload_n hx hb d_Cu_multiply_858 rfl (lv_at hl 32 rfl) ?_
  refine lv_bipush (v := 8) hx hb d_Cu_multiply_859 (by decide) ?_
  refine lv_lload_n hx hb d_Cu_multiply_861 rfl (lv_at hl 29 rfl) ?_
  refine lv_lload hx hb d_Cu_multiply_862 (lv_at hl 11 rfl) ?_
  refine lv_lmul hx hb d_Cu_multiply_864 ?_
  refine lv_topl (fun v145 ev => ?_)
  have hf := bn ev hf
  clear ev
  refine lv_lload hx hb d_Cu_multiply_865 (lv_at hl 28 rfl) ?_
  refine lv_lload hx hb d_Cu_multiply_867 (lv_at hl 12 rfl) ?_
  refine lv_lmul hx hb d_Cu_multiply_869 ?_
  refine lv_ladd hx hb d_Cu_multiply_870 ?_
  refine lv_topl (fun v146 ev => ?_)
  have hf := bn ev hf
  clear ev
  refine lv_lload hx hb d_Cu_multiply_871 (lv_at hl 27 rfl) ?_
  refine lv_lload hx hb d_Cu_multiply_873 (lv_at hl 13 rfl) ?_
  refine lv_lmul hx hb d_Cu_multiply_875 ?_
  refine lv_ladd hx hb d_Cu_multiply_876 ?_
  refine lv_topl (fun v147 ev => ?_)
  have hf := bn ev hf
  clear ev
  refine lv_lload hx hb d_Cu_multiply_877 (lv_at hl 26 rfl) ?_
  refine lv_lload hx hb d_Cu_multiply_879 (lv_at hl 14 rfl) ?_
  refine lv_lmul hx hb d_Cu_multiply_881 ?_
  refine lv_ladd hx hb d_Cu_multiply_882 ?_
  refine lv_topl (fun v148 ev => ?_)
  have hf := bn ev hf
  clear ev
  refine lv_lload hx hb d_Cu_multiply_883 (lv_at hl 25 rfl) ?_
  refine lv_lload hx hb d_Cu_multiply_885 (lv_at hl 15 rfl) ?_
  refine lv_lmul hx hb d_Cu_multiply_887 ?_
  refine lv_ladd hx hb d_Cu_multiply_888 ?_
  refine lv_topl (fun v149 ev => ?_)
  have hf := bn ev hf
  clear ev
  refine lv_lload hx hb d_Cu_multiply_889 (lv_at hl 24 rfl) ?_
  refine lv_lload hx hb d_Cu_multiply_891 (lv_at hl 16 rfl) ?_
  refine lv_lmul hx hb d_Cu_multiply_893 ?_
  refine lv_ladd hx hb d_Cu_multiply_894 ?_
  refine lv_topl (fun v150 ev => ?_)
  have hf := bn ev hf
  clear ev
  refine lv_lload hx hb d_Cu_multiply_895 (lv_at hl 23 rfl) ?_
  refine lv_lload hx hb d_Cu_multiply_897 (lv_at hl 17 rfl) ?_
  refine lv_lmul hx hb d_Cu_multiply_899 ?_
  refine lv_ladd hx hb d_Cu_multiply_900 ?_
  refine lv_topl (fun v151 ev => ?_)
  have hf := bn ev hf
  clear ev
  refine lv_lload hx hb d_Cu_multiply_901 (lv_at hl 22 rfl) ?_
  refine lv_lload hx hb d_Cu_multiply_903 (lv_at hl 18 rfl) ?_
  refine lv_lmul hx hb d_Cu_multiply_905 ?_
  refine lv_ladd hx hb d_Cu_multiply_906 ?_
  refine lv_topl (fun v152 ev => ?_)
  have hf := bn ev hf
  clear ev
  refine lv_lload hx hb d_Cu_multiply_907 (lv_at hl 21 rfl) ?_
  refine lv_lload hx hb d_Cu_multiply_909 (lv_at hl 19 rfl) ?_
  refine lv_lmul hx hb d_Cu_multiply_911 ?_
  refine lv_ladd hx hb d_Cu_multiply_912 ?_
  refine lv_topl (fun v153 ev => ?_)
  have hf := bn ev hf
  clear ev
  refine lv_lload hx hb d_Cu_multiply_913 (lv_at hl 0 rfl) ?_
  refine lv_ldc2 (v := 15632) hx hb hown (hts _ gw_1079) d_Cu_multiply_915 ?_
  refine lv_lmul hx hb d_Cu_multiply_918 ?_
  refine lv_ladd hx hb d_Cu_multiply_919 ?_
  refine lv_topl (fun v154 ev => ?_)
  have hf := bn ev hf
  clear ev
  refine lv_lload hx hb d_Cu_multiply_920 (lv_at hl 1 rfl) ?_
  refine lv_ldc2 (v := 1024) hx hb hown (hts _ gw_1081) d_Cu_multiply_922 ?_
  refine lv_lmul hx hb d_Cu_multiply_925 ?_
  refine lv_ladd hx hb d_Cu_multiply_926 ?_
  refine lv_topl (fun v155 ev => ?_)
  have hf := bn ev hf
  clear ev
  refine va_last hx hb hK hP hD hS 0 2 rfl rfl (inb_in (by decide)) d_Cu_multiply_927 (fun H locs hP hD hS => ?_)
  obtain ⟨f156, ev, hf⟩ := bne hf
  have hP : va_P D classes [(b0, .inl (cy 2, 10, .inr (.inl f156)))] H := by rw [ev]; exact hP
  have hD : va_D A [(b0, .inl (cy 2, 10, .inr (.inl f156)))] := by rw [ev]; exact hD
  clear ev
  refine lv_aload_n hx hb d_Cu_multiply_928 rfl (lv_at hl 32 rfl) ?_
  refine lv_bipush (v := 9) hx hb d_Cu_multiply_929 (by decide) ?_
  refine lv_lload_n hx hb d_Cu_multiply_931 rfl (lv_at hl 29 rfl) ?_
  refine lv_lload hx hb d_Cu_multiply_932 (lv_at hl 10 rfl) ?_
  refine lv_lmul hx hb d_Cu_multiply_934 ?_
  refine lv_topl (fun v157 ev => ?_)
  have hf := bn ev hf
  clear ev
  refine lv_lload hx hb d_Cu_multiply_935 (lv_at hl 28 rfl) ?_
  refine lv_lload hx hb d_Cu_multiply_937 (lv_at hl 11 rfl) ?_
  refine lv_lmul hx hb d_Cu_multiply_939 ?_
  refine lv_ladd hx hb d_Cu_multiply_940 ?_
  refine lv_topl (fun v158 ev => ?_)
  have hf := bn ev hf
  clear ev
  refine lv_lload hx hb d_Cu_multiply_941 (lv_at hl 27 rfl) ?_
  refine lv_lload hx hb d_Cu_multiply_943 (lv_at hl 12 rfl) ?_
  refine lv_lmul hx hb d_Cu_multiply_945 ?_
  refine lv_ladd hx hb d_Cu_multiply_946 ?_
  refine lv_topl (fun v159 ev => ?_)
  have hf := bn ev hf
  clear ev
  refine lv_lload hx hb d_Cu_multiply_947 (lv_at hl 26 rfl) ?_
  refine lv_lload hx hb d_Cu_multiply_949 (lv_at hl 13 rfl) ?_
  refine lv_lmul hx hb d_Cu_multiply_951 ?_
  refine lv_ladd hx hb d_Cu_multiply_952 ?_
  refine lv_topl (fun v160 ev => ?_)
  have hf := bn ev hf
  clear ev
  refine lv_lload hx hb d_Cu_multiply_953 (lv_at hl 25 rfl) ?_
  refine lv_lload hx hb d_Cu_multiply_955 (lv_at hl 14 rfl) ?_
  refine lv_lmul hx hb d_Cu_multiply_957 ?_
  refine lv_ladd hx hb d_Cu_multiply_958 ?_
  refine lv_topl (fun v161 ev => ?_)
  have hf := bn ev hf
  clear ev
  refine lv_lload hx hb d_Cu_multiply_959 (lv_at hl 24 rfl) ?_
  refine lv_lload hx hb d_Cu_multiply_961 (lv_at hl 15 rfl) ?_
  refine lv_lmul hx hb d_Cu_multiply_963 ?_
  refine lv_ladd hx hb d_Cu_multiply_964 ?_
  refine lv_topl (fun v162 ev => ?_)
  have hf := bn ev hf
  clear ev
  refine lv_lload hx hb d_Cu_multiply_965 (lv_at hl 23 rfl) ?_
  refine lv_lload hx hb d_Cu_multiply_967 (lv_at hl 16 rfl) ?_
  refine lv_lmul hx hb d_Cu_multiply_969 ?_
  refine lv_ladd hx hb d_Cu_multiply_970 ?_
  refine lv_topl (fun v163 ev => ?_)
  have hf := bn ev hf
  clear ev
  refine lv_lload hx hb d_Cu_multiply_971 (lv_at hl 22 rfl) ?_
  refine lv_lload hx hb d_Cu_multiply_973 (lv_at hl 17 rfl) ?_
  refine lv_lmul hx hb d_Cu_multiply_975 ?_
  refine lv_ladd hx hb d_Cu_multiply_976 ?_
  refine lv_topl (fun v164 ev => ?_)
  have hf := bn ev hf
  clear ev
  refine lv_lload hx hb d_Cu_multiply_977 (lv_at hl 21 rfl) ?_
  refine lv_lload hx hb d_Cu_multiply_979 (lv_at hl 18 rfl) ?_
  refine lv_lmul hx hb d_Cu_multiply_981 ?_
  refine lv_ladd hx hb d_Cu_multiply_982 ?_
  refine lv_topl (fun v165 ev => ?_)
  have hf := bn ev hf
  clear ev
  refine lv_lload hx hb d_Cu_multiply_983 (lv_at hl 20 rfl) ?_
  refine lv_lload hx hb d_Cu_multiply_985 (lv_at hl 19 rfl) ?_
  refine lv_lmul hx hb d_Cu_multiply_987 ?_
  refine lv_ladd hx hb d_Cu_multiply_988 ?_
  refine lv_topl (fun v166 ev => ?_)
  have hf := bn ev hf
  clear ev
  refine lv_lload hx hb d_Cu_multiply_989 (lv_at hl 9 rfl) ?_
  refine lv_ldc2 (v := 15632) hx hb hown (hts _ gw_1079) d_Cu_multiply_991 ?_
  refine lv_lmul hx hb d_Cu_multiply_994 ?_
  refine lv_ladd hx hb d_Cu_multiply_995 ?_
  refine lv_topl (fun v167 ev => ?_)
  have hf := bn ev hf
  clear ev
  refine lv_lload hx hb d_Cu_multiply_996 (lv_at hl 0 rfl) ?_
  refine lv_ldc2 (v := 1024) hx hb hown (hts _ gw_1081) d_Cu_multiply_998 ?_
  refine lv_lmul hx hb d_Cu_multiply_1001 ?_
  refine lv_ladd hx hb d_Cu_multiply_1002 ?_
  refine lv_topl (fun v168 ev => ?_)
  have hf := bn ev hf
  clear ev
  refine va_last hx hb hK hP hD hS 0 2 rfl rfl (inb_in (by decide)) d_Cu_multiply_1003 (fun H locs hP hD hS => ?_)
  obtain ⟨f169, ev, hf⟩ := bne hf
  have hP : va_P D classes [(b0, .inl (cy 2, 10, .inr (.inl f169)))] H := by rw [ev]; exact hP
  have hD : va_D A [(b0, .inl (cy 2, 10, .inr (.inl f169)))] := by rw [ev]; exact hD
  clear ev
  refine lv_iconst (v := 0) hx hb d_Cu_multiply_1004 (by decide) ?_
  refine lv_istore (lv' := [(63, .int (0 : Int32)), (59, .long v83), (57, .long v82), (55, .long v81), (53, .long v80), (51, .long v79), (49, .long v78), (47, .long v77), (45, .long v76), (43, .long v75), (61, .long v74), (41, .long v20), (39, .long v19), (37, .long v18), (35, .long v17), (33, .long v16), (31, .long v15), (29, .long v14), (27, .long v13), (25, .long v12), (23, .long v11), (21, .long v10), (19, .long v9), (17, .long v8), (15, .long v7), (13, .long v6), (11, .long v5), (9, .long v4), (7, .long v3), (5, .long v2), (3, .long v1), (0, .ref b0), (1, .ref b0), (2, .ref b0)]) hx hb d_Cu_multiply_1005 hl (by decide) rfl (fun ls hl => ?_)
  exact w_Cu_multiply_e10e20_1007 F fu _ _ _ hf _ _ _ hP hD hS (lv_sub hl [33, 0] rfl)
theorem c_Cu_multiply_e10e20 (l : Launch) (D : va_G) (cy : Nat → ClassId) (ad : Nat → Nat) (fu : Nat) (b0 : Nat) (u0 : Nat → Int64) (res : (Nat → Int64)) (hf : x_Cu_multiply_e10e20 fu u0 = some res) (sz : Nat) : Met l ({ cls := "CoinKeeper$Curve", name := "multiply", desc := "([J[J[J)V" } : Jvm.MethodName) (.code ({ cls := "CoinKeeper$Curve", name := "multiply", desc := "([J[J[J)V" } : Jvm.MethodName) b_Cu_multiply 65 none :: gw) rm_Cu_multiply_e10e20 (va_Pc [.ref b0, .ref b0, .ref b0] (Pr D cy ad [(b0, .inl (cy 2, 10, .inr (.inl u0)))] sz)) (q_Cu_multiply_e10e20 D cy (va_A [(b0, .inl (cy 2, 10, .inr (.inl u0)))] sz) b0 res) 0 0 (va_A [(b0, .inl (cy 2, 10, .inr (.inl u0)))] sz) :=
  q_met (Qc := fun A => q_Cu_multiply_e10e20 D cy A b0 res) (by decide) rfl rfl (Nat.le_of_ble_eq_true rfl) (fun p e s m below meth c ls F hP hD hS hl => we_Cu_multiply_e10e20 (fu := fu) F u0 res hf _ _ _ hP hD hS hl) sz
