abbrev rm_M_times_e21 : Room := { frames := 3, cells := 0, slots := 0, locals := 64 }
abbrev q_M_times_e21 (D : va_G) (cy : Nat → ClassId) (A : Nat → Prop) (o : Nat) (q : Nat → Nat) (b1 : Nat) (b3 : Nat) (z : Nat → Int32) (h3 : Nat → Int32) (res : (Nat → Int32) × (Nat → Int32)) : Array Value → State → Outcome → State → Prop := va_Qv (fun (_ : Unit) => True) (fun _ t => Po D cy A [(o, .inr (12, mo q z)), ((q 50), .inl (cy 1, 16, .inl res.1)), (b1, .inl (cy 1, 8, .inl res.2)), (b3, .inl (cy 1, 8, .inl h3))] t) A
def I_M_times_e21_175 (p : Program) (l : Launch) (e : Env) (s : State) (m : MethodId) (args : Array Value) (below : List Frame) (meth : Method) (c : Code) (D : va_G) (cy : Nat → ClassId) (A : Nat → Prop) (ad : Nat → Nat) (o : Nat) (q : Nat → Nat) (b1 : Nat) (b3 : Nat) (z : Nat → Int32) (h3 : Nat → Int32) (k : Int64 → Int32 → Int64 → Int64 → Int64 → (Nat → Int32) → (Nat → Int32) → Option ((Nat → Int32) × (Nat → Int32))) : Prop :=
  ∀ (x6 : Int64) (x8 : Int32) (y0 : Int64) (y1 : Int64) (y2 : Int64) (u0 : Nat → Int32) (u1 : Nat → Int32) (res : (Nat → Int32) × (Nat → Int32)), k x6 x8 y0 y1 y2 u0 u1 = some res → ∀ (H : Heap) (locs : List Loc) (ls : Array Slot), va_P D classes [(o, .inr (12, mo q z)), ((q 50), .inl (cy 1, 16, .inl u0)), (b1, .inl (cy 1, 8, .inl u1)), (b3, .inl (cy 1, 8, .inl h3))] H → va_D A [(o, .inr (12, mo q z)), ((q 50), .inl (cy 1, 16, .inl u0)), (b1, .inl (cy 1, 8, .inl u1)), (b3, .inl (cy 1, 8, .inl h3))] → va_S A s.heap H locs → lv_has ls 9 [(1, .ref b1), (6, .long x6), (8, .int x8)] → W p l e rm_M_times_e21 s m args below meth c H locs 0 0 (MQ below (q_M_times_e21 D cy A o q b1 b3 z h3 res) args s 0 0 A) (F0 m 175 ls [.long y0, .long y1, .long y2])
def I_M_times_e21_131 (p : Program) (l : Launch) (e : Env) (s : State) (m : MethodId) (args : Array Value) (below : List Frame) (meth : Method) (c : Code) (D : va_G) (cy : Nat → ClassId) (A : Nat → Prop) (ad : Nat → Nat) (o : Nat) (q : Nat → Nat) (b1 : Nat) (b3 : Nat) (z : Nat → Int32) (h3 : Nat → Int32) (k : Int64 → Int64 → Int32 → (Nat → Int32) → (Nat → Int32) → Option ((Nat → Int32) × (Nat → Int32))) : Prop :=
  ∀ (x4 : Int64) (x6 : Int64) (x8 : Int32) (u0 : Nat → Int32) (u1 : Nat → Int32) (res : (Nat → Int32) × (Nat → Int32)), k x4 x6 x8 u0 u1 = some res → ∀ (H : Heap) (locs : List Loc) (ls : Array Slot), va_P D classes [(o, .inr (12, mo q z)), ((q 50), .inl (cy 1, 16, .inl u0)), (b1, .inl (cy 1, 8, .inl u1)), (b3, .inl (cy 1, 8, .inl h3))] H → va_D A [(o, .inr (12, mo q z)), ((q 50), .inl (cy 1, 16, .inl u0)), (b1, .inl (cy 1, 8, .inl u1)), (b3, .inl (cy 1, 8, .inl h3))] → va_S A s.heap H locs → lv_has ls 9 [(1, .ref b1), (4, .long x4), (6, .long x6), (8, .int x8)] → W p l e rm_M_times_e21 s m args below meth c H locs 0 0 (MQ below (q_M_times_e21 D cy A o q b1 b3 z h3 res) args s 0 0 A) (F0 m 131 ls [])
def I_M_times_e21_118 (p : Program) (l : Launch) (e : Env) (s : State) (m : MethodId) (args : Array Value) (below : List Frame) (meth : Method) (c : Code) (D : va_G) (cy : Nat → ClassId) (A : Nat → Prop) (ad : Nat → Nat) (o : Nat) (q : Nat → Nat) (b1 : Nat) (b3 : Nat) (z : Nat → Int32) (h3 : Nat → Int32) (k : Int64 → (Nat → Int32) → (Nat → Int32) → Option ((Nat → Int32) × (Nat → Int32))) : Prop :=
  ∀ (x6 : Int64) (u0 : Nat → Int32) (u1 : Nat → Int32) (res : (Nat → Int32) × (Nat → Int32)), k x6 u0 u1 = some res → ∀ (H : Heap) (locs : List Loc) (ls : Array Slot), va_P D classes [(o, .inr (12, mo q z)), ((q 50), .inl (cy 1, 16, .inl u0)), (b1, .inl (cy 1, 8, .inl u1)), (b3, .inl (cy 1, 8, .inl h3))] H → va_D A [(o, .inr (12, mo q z)), ((q 50), .inl (cy 1, 16, .inl u0)), (b1, .inl (cy 1, 8, .inl u1)), (b3, .inl (cy 1, 8, .inl h3))] → va_S A s.heap H locs → lv_has ls 9 [(1, .ref b1), (6, .long x6)] → W p l e rm_M_times_e21 s m args below meth c H locs 0 0 (MQ below (q_M_times_e21 D cy A o q b1 b3 z h3 res) args s 0 0 A) (F0 m 118 ls [])
def I_M_times_e21_77 (p : Program) (l : Launch) (e : Env) (s : State) (m : MethodId) (args : Array Value) (below : List Frame) (meth : Method) (c : Code) (D : va_G) (cy : Nat → ClassId) (A : Nat → Prop) (ad : Nat → Nat) (o : Nat) (q : Nat → Nat) (b1 : Nat) (b3 : Nat) (z : Nat → Int32) (h3 : Nat → Int32) (k : Int32 → Int64 → Int64 → Int64 → (Nat → Int32) → (Nat → Int32) → Option ((Nat → Int32) × (Nat → Int32))) : Prop :=
  ∀ (x6 : Int32) (y0 : Int64) (y1 : Int64) (y2 : Int64) (u0 : Nat → Int32) (u1 : Nat → Int32) (res : (Nat → Int32) × (Nat → Int32)), k x6 y0 y1 y2 u0 u1 = some res → ∀ (H : Heap) (locs : List Loc) (ls : Array Slot), va_P D classes [(o, .inr (12, mo q z)), ((q 50), .inl (cy 1, 16, .inl u0)), (b1, .inl (cy 1, 8, .inl u1)), (b3, .inl (cy 1, 8, .inl h3))] H → va_D A [(o, .inr (12, mo q z)), ((q 50), .inl (cy 1, 16, .inl u0)), (b1, .inl (cy 1, 8, .inl u1)), (b3, .inl (cy 1, 8, .inl h3))] → va_S A s.heap H locs → lv_has ls 9 [(0, .ref o), (1, .ref b1), (6, .int x6)] → W p l e rm_M_times_e21 s m args below meth c H locs 0 0 (MQ below (q_M_times_e21 D cy A o q b1 b3 z h3 res) args s 0 0 A) (F0 m 77 ls [.long y0, .long y1, .long y2])
def I_M_times_e21_12 (p : Program) (l : Launch) (e : Env) (s : State) (m : MethodId) (args : Array Value) (below : List Frame) (meth : Method) (c : Code) (D : va_G) (cy : Nat → ClassId) (A : Nat → Prop) (ad : Nat → Nat) (o : Nat) (q : Nat → Nat) (b1 : Nat) (b3 : Nat) (z : Nat → Int32) (h3 : Nat → Int32) (k : Int64 → Int32 → (Nat → Int32) → (Nat → Int32) → Option ((Nat → Int32) × (Nat → Int32))) : Prop :=
  ∀ (x4 : Int64) (x6 : Int32) (u0 : Nat → Int32) (u1 : Nat → Int32) (res : (Nat → Int32) × (Nat → Int32)), k x4 x6 u0 u1 = some res → ∀ (H : Heap) (locs : List Loc) (ls : Array Slot), va_P D classes [(o, .inr (12, mo q z)), ((q 50), .inl (cy 1, 16, .inl u0)), (b1, .inl (cy 1, 8, .inl u1)), (b3, .inl (cy 1, 8, .inl h3))] H → va_D A [(o, .inr (12, mo q z)), ((q 50), .inl (cy 1, 16, .inl u0)), (b1, .inl (cy 1, 8, .inl u1)), (b3, .inl (cy 1, 8, .inl h3))] → va_S A s.heap H locs → lv_has ls 9 [(0, .ref o), (1, .ref b1), (4, .long x4), (6, .int x6)] → W p l e rm_M_times_e21 s m args below meth c H locs 0 0 (MQ below (q_M_times_e21 D cy A o q b1 b3 z h3 res) args s 0 0 A) (F0 m 12 ls [])
def I_M_times_e21_e (p : Program) (l : Launch) (e : Env) (s : State) (m : MethodId) (args : Array Value) (below : List Frame) (meth : Method) (c : Code) (D : va_G) (cy : Nat → ClassId) (A : Nat → Prop) (ad : Nat → Nat) (o : Nat) (q : Nat → Nat) (b1 : Nat) (b3 : Nat) (z : Nat → Int32) (h3 : Nat → Int32) (k : (Nat → Int32) → (Nat → Int32) → Option ((Nat → Int32) × (Nat → Int32))) : Prop :=
  ∀ (u0 : Nat → Int32) (u1 : Nat → Int32) (res : (Nat → Int32) × (Nat → Int32)), k u0 u1 = some res → ∀ (H : Heap) (locs : List Loc) (ls : Array Slot), va_P D classes [(o, .inr (12, mo q z)), ((q 50), .inl (cy 1, 16, .inl u0)), (b1, .inl (cy 1, 8, .inl u1)), (b3, .inl (cy 1, 8, .inl h3))] H → va_D A [(o, .inr (12, mo q z)), ((q 50), .inl (cy 1, 16, .inl u0)), (b1, .inl (cy 1, 8, .inl u1)), (b3, .inl (cy 1, 8, .inl h3))] → va_S A s.heap H locs → lv_has ls 9 [(0, .ref o), (1, .ref b1), (2, .ref b1), (3, .ref b3)] → W p l e rm_M_times_e21 s m args below meth c H locs 0 0 (MQ below (q_M_times_e21 D cy A o q b1 b3 z h3 res) args s 0 0 A) (F0 m 0 ls [])
set_option maxHeartbeats 8000000 in
set_option maxRecDepth 100000 in
theorem wb_M_times_e21_175 {p : Program} {l : Launch} {e : Env} {s : State} {m : MethodId} {args : Array Value} {below : List Frame} {meth : Method} {c : Code} {D : va_G} {cy : Nat → ClassId} {A : Nat → Prop} {ad : Nat → Nat} {o : Nat} {q : Nat → Nat} {b1 : Nat} {b3 : Nat} {z : Nat → Int32} {h3 : Nat → Int32} {fu : Nat} {k_118 : Int64 → (Nat → Int32) → (Nat → Int32) → Option ((Nat → Int32) × (Nat → Int32))} {k_131 : Int64 → Int64 → Int32 → (Nat → Int32) → (Nat → Int32) → Option ((Nat → Int32) × (Nat → Int32))} (F : Fx p s m args meth c b_M_times 9 "CoinKeeperModel" "times" none D cy ad A) (hk_118 : I_M_times_e21_118 p l e s m args below meth c D cy A ad o q b1 b3 z h3 k_118) (hk_131 : I_M_times_e21_131 p l e s m args below meth c D cy A ad o q b1 b3 z h3 k_131) : I_M_times_e21_175 p l e s m args below meth c D cy A ad o q b1 b3 z h3 (xb_M_times_e21_175 fu z h3 k_118 k_131) := by
  obtain ⟨hx, hb, hr, hml, hown, hts, hlocks, hK, hA, hSt, hnm, hex⟩ := id F
  intro x6 x8 y0 y1 y2 u0 u1 res hf H locs ls hP hD hS hl
  unfold xb_M_times_e21_175 at hf
  refine lv_ladd hx hb d_M_times_175 ?_
  refine lv_ladd hx hb d_M_times_176 ?_
  refine lv_topl (fun v1 ev => ?_)
  have hf := bn ev hf
  clear ev
  refine lv_lstore (lv' := [(4, .long v1), (1, .ref b1), (6, .long x6), (8, .int x8)]) hx hb d_M_times_177 hl (by decide) rfl (fun ls hl => ?_)
  refine lv_aload_n hx hb d_M_times_179 rfl (lv_at hl 1 rfl) ?_
  refine lv_iload hx hb d_M_times_180 (lv_at hl 3 rfl) ?_
  refine lv_lload hx hb d_M_times_182 (lv_at hl 0 rfl) ?_
  refine lv_l2i hx hb d_M_times_184 rfl ?_
  refine lv_topi (fun v2 ev => ?_)
  have hf := bn ev hf
  clear ev
  obtain ⟨hg, hf⟩ := gdp hf
  refine va_iast hx hb hK hP hD hS 2 1 rfl rfl (inb_in hg) d_M_times_185 (fun H locs hP hD hS => ?_)
  obtain ⟨f3, ev, hf⟩ := bne hf
  have hP : va_P D classes [(o, .inr (12, mo q z)), ((q 50), .inl (cy 1, 16, .inl u0)), (b1, .inl (cy 1, 8, .inl f3)), (b3, .inl (cy 1, 8, .inl h3))] H := by rw [ev]; exact hP
  have hD : va_D A [(o, .inr (12, mo q z)), ((q 50), .inl (cy 1, 16, .inl u0)), (b1, .inl (cy 1, 8, .inl f3)), (b3, .inl (cy 1, 8, .inl h3))] := by rw [ev]; exact hD
  clear ev
  refine lv_lload hx hb d_M_times_186 (lv_at hl 0 rfl) ?_
  refine lv_bipush (v := 32) hx hb d_M_times_188 (by decide) ?_
  refine lv_lushr hx hb d_M_times_190 rfl ?_
  refine lv_topl (fun v4 ev => ?_)
  have hf := bn ev hf
  clear ev
  refine lv_lstore (lv' := [(4, .long v4), (1, .ref b1), (6, .long x6), (8, .int x8)]) hx hb d_M_times_191 hl (by decide) rfl (fun ls hl => ?_)
  obtain ⟨v5, ev, hf⟩ := bne hf
  refine lv_iinc (v := v5) (lv' := [(8, .int v5), (4, .long v4), (1, .ref b1), (6, .long x6)]) hx hb d_M_times_193 hl (k := 3) rfl (by rw [ev]; rfl) (by decide) rfl (fun ls hl => ?_)
  clear ev
  refine lv_goto (tgt := 131) hx hb d_M_times_196 (by decide) ?_
  exact hk_131 _ _ _ _ _ _ hf _ _ _ hP hD hS (lv_sub hl [2, 1, 3, 0] rfl)
set_option maxHeartbeats 8000000 in
set_option maxRecDepth 100000 in
theorem wb_M_times_e21_131 {p : Program} {l : Launch} {e : Env} {s : State} {m : MethodId} {args : Array Value} {below : List Frame} {meth : Method} {c : Code} {D : va_G} {cy : Nat → ClassId} {A : Nat → Prop} {ad : Nat → Nat} {o : Nat} {q : Nat → Nat} {b1 : Nat} {b3 : Nat} {z : Nat → Int32} {h3 : Nat → Int32} {fu : Nat} {k_118 : Int64 → (Nat → Int32) → (Nat → Int32) → Option ((Nat → Int32) × (Nat → Int32))} {k_131 : Int64 → Int64 → Int32 → (Nat → Int32) → (Nat → Int32) → Option ((Nat → Int32) × (Nat → Int32))} (F : Fx p s m args meth c b_M_times 9 "CoinKeeperModel" "times" none D cy ad A) (hk_118 : I_M_times_e21_118 p l e s m args below meth c D cy A ad o q b1 b3 z h3 k_118) (hk_131 : I_M_times_e21_131 p l e s m args below meth c D cy A ad o q b1 b3 z h3 k_131) : I_M_times_e21_131 p l e s m args below meth c D cy A ad o q b1 b3 z h3 (xb_M_times_e21_131 fu z h3 k_118 k_131) := by
  obtain ⟨hx, hb, hr, hml, hown, hts, hlocks, hK, hA, hSt, hnm, hex⟩ := id F
  intro x4 x6 x8 u0 u1 res hf H locs ls hP hD hS hl
  unfold xb_M_times_e21_131 at hf
  refine lv_iload hx hb d_M_times_131 (lv_at hl 3 rfl) ?_
  refine lv_bipush (v := 8) hx hb d_M_times_133 (by decide) ?_
  refine lv_icmp_ge (tgt := 199) hx hb d_M_times_135 (by decide) (fun cx => ?_) (fun cx => ?_)
  · have hf := ifp cx hf
    refine lv_lload hx hb d_M_times_199 (lv_at hl 1 rfl) ?_
    refine lv_lstore (lv' := [(6, .long x4), (1, .ref b1), (4, .long x4), (8, .int x8)]) hx hb d_M_times_201 hl (by decide) rfl (fun ls hl => ?_)
    refine lv_goto (tgt := 118) hx hb d_M_times_203 (by decide) ?_
    exact hk_118 _ _ _ _ hf _ _ _ hP hD hS (lv_sub hl [1, 0] rfl)
  · have hf := ifn cx hf
    refine lv_lload hx hb d_M_times_138 (lv_at hl 1 rfl) ?_
    refine lv_aload_n hx hb d_M_times_140 rfl (lv_at hl 0 rfl) ?_
    refine lv_iload hx hb d_M_times_141 (lv_at hl 3 rfl) ?_
    obtain ⟨hg, hf⟩ := gdp hf
    refine va_iald hx hb hK hP 2 1 rfl rfl (inb_in hg) d_M_times_143 ?_
    refine lv_topi (fun v1 ev => ?_)
    have hf := bn ev hf
    clear ev
    refine lv_i2l hx hb d_M_times_144 rfl ?_
    refine lv_topl (fun v2 ev => ?_)
    have hf := bn ev hf
    clear ev
    refine lv_ldc2 (v := 4294967295) hx hb hown (hts _ gw_1390) d_M_times_145 ?_
    refine lv_land hx hb d_M_times_148 ?_
    refine lv_topl (fun v3 ev => ?_)
    have hf := bn ev hf
    clear ev
    refine lv_iload hx hb d_M_times_149 (lv_at hl 3 rfl) ?_
    refine lv_if_ne (tgt := 163) hx hb d_M_times_151 (by decide) (fun cx => ?_) (fun cx => ?_)
    · have hf := ifn cx hf
      refine lv_iload hx hb d_M_times_163 (lv_at hl 3 rfl) ?_
      refine lv_iconst (v := 1) hx hb d_M_times_165 (by decide) ?_
      refine lv_icmp_ne (tgt := 174) hx hb d_M_times_166 (by decide) (fun cx => ?_) (fun cx => ?_)
      · have hf := ifn cx hf
        refine lv_lconst (v := 0) hx hb d_M_times_174 (by decide) ?_
        exact wb_M_times_e21_175 (fu := fu) F hk_118 hk_131 _ _ _ _ _ _ _ _ hf _ _ _ hP hD hS (lv_sub hl [0, 2, 3] rfl)
      · have hf := ifp cx hf
        refine lv_lload hx hb d_M_times_169 (lv_at hl 2 rfl) ?_
        refine lv_goto (tgt := 175) hx hb d_M_times_171 (by decide) ?_
        exact wb_M_times_e21_175 (fu := fu) F hk_118 hk_131 _ _ _ _ _ _ _ _ hf _ _ _ hP hD hS (lv_sub hl [0, 2, 3] rfl)
    · have hf := ifp cx hf
      refine lv_lload hx hb d_M_times_154 (lv_at hl 2 rfl) ?_
      refine lv_ldc2 (v := 977) hx hb hown (hts _ gw_1984) d_M_times_156 ?_
      refine lv_lmul hx hb d_M_times_159 ?_
      refine lv_goto (tgt := 175) hx hb d_M_times_160 (by decide) ?_
      exact wb_M_times_e21_175 (fu := fu) F hk_118 hk_131 _ _ _ _ _ _ _ _ hf _ _ _ hP hD hS (lv_sub hl [0, 2, 3] rfl)
theorem w_M_times_e21_131 {p : Program} {l : Launch} {e : Env} {s : State} {m : MethodId} {args : Array Value} {below : List Frame} {meth : Method} {c : Code} {D : va_G} {cy : Nat → ClassId} {A : Nat → Prop} {ad : Nat → Nat} {o : Nat} {q : Nat → Nat} {b1 : Nat} {b3 : Nat} {z : Nat → Int32} {h3 : Nat → Int32} {fu : Nat} {k_118 : Int64 → (Nat → Int32) → (Nat → Int32) → Option ((Nat → Int32) × (Nat → Int32))} (F : Fx p s m args meth c b_M_times 9 "CoinKeeperModel" "times" none D cy ad A) (hk_118 : I_M_times_e21_118 p l e s m args below meth c D cy A ad o q b1 b3 z h3 k_118) : ∀ n : Nat, I_M_times_e21_131 p l e s m args below meth c D cy A ad o q b1 b3 z h3 (x_M_times_e21_131 fu z h3 k_118 n)
  | 0 => fun _ _ _ _ _ _ hf => nomatch (show (none : Option ((Nat → Int32) × (Nat → Int32))) = some _ from hf)
  | n + 1 => wb_M_times_e21_131 F hk_118 (w_M_times_e21_131 F hk_118 n)
set_option maxHeartbeats 8000000 in
set_option maxRecDepth 100000 in
theorem wb_M_times_e21_118 {p : Program} {l : Launch} {e : Env} {s : State} {m : MethodId} {args : Array Value} {below : List Frame} {meth : Method} {c : Code} {D : va_G} {cy : Nat → ClassId} {A : Nat → Prop} {ad : Nat → Nat} {o : Nat} {q : Nat → Nat} {b1 : Nat} {b3 : Nat} {z : Nat → Int32} {h3 : Nat → Int32} {fu : Nat} {k_118 : Int64 → (Nat → Int32) → (Nat → Int32) → Option ((Nat → Int32) × (Nat → Int32))} (F : Fx p s m args meth c b_M_times 9 "CoinKeeperModel" "times" none D cy ad A) (hk_118 : I_M_times_e21_118 p l e s m args below meth c D cy A ad o q b1 b3 z h3 k_118) : I_M_times_e21_118 p l e s m args below meth c D cy A ad o q b1 b3 z h3 (xb_M_times_e21_118 fu z h3 k_118) := by
  obtain ⟨hx, hb, hr, hml, hown, hts, hlocks, hK, hA, hSt, hnm, hex⟩ := id F
  intro x6 u0 u1 res hf H locs ls hP hD hS hl
  unfold xb_M_times_e21_118 at hf
  refine lv_lload hx hb d_M_times_118 (lv_at hl 1 rfl) ?_
  refine lv_lconst (v := 0) hx hb d_M_times_120 (by decide) ?_
  refine W.lcmp hx hb d_M_times_121 ?_
  refine lv_if_le (tgt := 206) hx hb d_M_times_122 (by decide) (fun cx => ?_) (fun cx => ?_)
  · have hf := ifp cx hf
    refine lv_aload_n hx hb d_M_times_206 rfl (lv_at hl 0 rfl) ?_
    refine va_gets hx hb (hSt.1 22 _ rfl).1 hS hown (hts _ gw_1974) (fun _ h9 => h9) d_M_times_207 ?_
    obtain ⟨v1, hc, hf⟩ := bdp1 hf
    refine q_ai (wr := [(o, .inr (12, mo q z)), ((q 50), .inl (cy 1, 16, .inl u0)), (b3, .inl (cy 1, 8, .inl h3))]) (va_runS (As := [.ref b1, .ref (ad 22)]) (rest := []) ⟨hx, hb, hml, hown, hts⟩ (c_M_compare_s1x22 l D cy ad fu b1 u1 _ hc H.size) ⟨q_cB hts gw_1404 gw_18 gw_1402 hdm_16 ⟨by decide, by decide⟩, hts _ gw_1403⟩ (q_pre (hP.sub [2] rfl) (hD.sub [2] (by decide) rfl) hK hSt hS (va_free hD hS hA [2] rfl) _) rfl rfl hl.1 rfl (lv_room (Nat.le_of_ble_eq_true rfl)) d_M_times_210 ⟨Nat.le_of_ble_eq_true rfl, Nat.le_of_ble_eq_true rfl⟩) hP hD hS hA [2] [0, 1, 3] rfl rfl (by decide) (by decide) (fun H locs hP hD hS => ?_)
    clear hc
    have hP : va_P D classes [(o, .inr (12, mo q z)), ((q 50), .inl (cy 1, 16, .inl u0)), (b3, .inl (cy 1, 8, .inl h3)), (b1, .inl (cy 1, 8, .inl u1))] H := hP
    have hD : va_D A [(o, .inr (12, mo q z)), ((q 50), .inl (cy 1, 16, .inl u0)), (b3, .inl (cy 1, 8, .inl h3)), (b1, .inl (cy 1, 8, .inl u1))] := hD
    refine lv_if_lt (tgt := 225) hx hb d_M_times_213 (by decide) (fun cx => ?_) (fun cx => ?_)
    · have hf := ifp cx hf
      obtain rfl := Option.some.inj hf
      exact q_rv hx hb hr hlocks hK (hP.sub [0, 1, 3, 2] rfl) (hD.sub [0, 1, 3, 2] (by decide) rfl) hS d_M_times_225
    · have hf := ifn cx hf
      refine lv_aload_n hx hb d_M_times_216 rfl (lv_at hl 0 rfl) ?_
      refine lv_aload_n hx hb d_M_times_217 rfl (lv_at hl 0 rfl) ?_
      refine va_gets hx hb (hSt.1 22 _ rfl).1 hS hown (hts _ gw_1974) (fun _ h9 => h9) d_M_times_218 ?_
      obtain ⟨v2, f3, hc, hf⟩ := bdp2 hf
      refine q_ai (wr := [(o, .inr (12, mo q z)), ((q 50), .inl (cy 1, 16, .inl u0)), (b3, .inl (cy 1, 8, .inl h3))]) (va_runS (As := [.ref b1, .ref b1, .ref (ad 22)]) (rest := []) ⟨hx, hb, hml, hown, hts⟩ (c_M_sub_e10s2x22 l D cy ad fu b1 u1 _ hc H.size) ⟨q_cB hts gw_1414 gw_18 gw_1412 hdm_17 ⟨by decide, by decide⟩, hts _ gw_1413⟩ (q_pre (hP.sub [3] rfl) (hD.sub [3] (by decide) rfl) hK hSt hS (va_free hD hS hA [3] rfl) _) rfl rfl hl.1 rfl (lv_room (Nat.le_of_ble_eq_true rfl)) d_M_times_221 ⟨Nat.le_of_ble_eq_true rfl, Nat.le_of_ble_eq_true rfl⟩) hP hD hS hA [3] [0, 1, 2] rfl rfl (by decide) (by decide) (fun H locs hP hD hS => ?_)
      clear hc
      have hP : va_P D classes [(o, .inr (12, mo q z)), ((q 50), .inl (cy 1, 16, .inl u0)), (b3, .inl (cy 1, 8, .inl h3)), (b1, .inl (cy 1, 8, .inl f3))] H := hP
      have hD : va_D A [(o, .inr (12, mo q z)), ((q 50), .inl (cy 1, 16, .inl u0)), (b3, .inl (cy 1, 8, .inl h3)), (b1, .inl (cy 1, 8, .inl f3))] := hD
      refine lv_pop hx hb d_M_times_224 rfl ?_
      obtain rfl := Option.some.inj hf
      exact q_rv hx hb hr hlocks hK (hP.sub [0, 1, 3, 2] rfl) (hD.sub [0, 1, 3, 2] (by decide) rfl) hS d_M_times_225
  · have hf := ifn cx hf
    refine lv_lconst (v := 0) hx hb d_M_times_125 (by decide) ?_
    refine lv_lstore (lv' := [(4, .long (0 : Int64)), (1, .ref b1), (6, .long x6)]) hx hb d_M_times_126 hl (by decide) rfl (fun ls hl => ?_)
    refine lv_iconst (v := 0) hx hb d_M_times_128 (by decide) ?_
    refine lv_istore (lv' := [(8, .int (0 : Int32)), (4, .long (0 : Int64)), (1, .ref b1), (6, .long x6)]) hx hb d_M_times_129 hl (by decide) rfl (fun ls hl => ?_)
    exact w_M_times_e21_131 F hk_118 fu _ _ _ _ _ _ hf _ _ _ hP hD hS (lv_sub hl [2, 1, 3, 0] rfl)
theorem w_M_times_e21_118 {p : Program} {l : Launch} {e : Env} {s : State} {m : MethodId} {args : Array Value} {below : List Frame} {meth : Method} {c : Code} {D : va_G} {cy : Nat → ClassId} {A : Nat → Prop} {ad : Nat → Nat} {o : Nat} {q : Nat → Nat} {b1 : Nat} {b3 : Nat} {z : Nat → Int32} {h3 : Nat → Int32} {fu : Nat} (F : Fx p s m args meth c b_M_times 9 "CoinKeeperModel" "times" none D cy ad A) : ∀ n : Nat, I_M_times_e21_118 p l e s m args below meth c D cy A ad o q b1 b3 z h3 (x_M_times_e21_118 fu z h3 n)
  | 0 => fun _ _ _ _ hf => nomatch (show (none : Option ((Nat → Int32) × (Nat → Int32))) = some _ from hf)
  | n + 1 => wb_M_times_e21_118 F (w_M_times_e21_118 F n)
set_option maxHeartbeats 8000000 in
set_option maxRecDepth 100000 in
theorem wb_M_times_e21_77 {p : Program} {l : Launch} {e : Env} {s : State} {m : MethodId} {args : Array Value} {below : List Frame} {meth : Method} {c : Code} {D : va_G} {cy : Nat → ClassId} {A : Nat → Prop} {ad : Nat → Nat} {o : Nat} {q : Nat → Nat} {b1 : Nat} {b3 : Nat} {z : Nat → Int32} {h3 : Nat → Int32} {fu : Nat} {k_12 : Int64 → Int32 → (Nat → Int32) → (Nat → Int32) → Option ((Nat → Int32) × (Nat → Int32))} (F : Fx p s m args meth c b_M_times 9 "CoinKeeperModel" "times" none D cy ad A) (hk_12 : I_M_times_e21_12 p l e s m args below meth c D cy A ad o q b1 b3 z h3 k_12) : I_M_times_e21_77 p l e s m args below meth c D cy A ad o q b1 b3 z h3 (xb_M_times_e21_77 fu z h3 k_12) := by
  obtain ⟨hx, hb, hr, hml, hown, hts, hlocks, hK, hA, hSt, hnm, hex⟩ := id F
  intro x6 y0 y1 y2 u0 u1 res hf H locs ls hP hD hS hl
  unfold xb_M_times_e21_77 at hf
  refine lv_ladd hx hb d_M_times_77 ?_
  refine lv_ladd hx hb d_M_times_78 ?_
  refine lv_topl (fun v1 ev => ?_)
  have hf := bn ev hf
  clear ev
  refine lv_lstore (lv' := [(4, .long v1), (0, .ref o), (1, .ref b1), (6, .int x6)]) hx hb d_M_times_79 hl (by decide) rfl (fun ls hl => ?_)
  refine lv_aload_n hx hb d_M_times_81 rfl (lv_at hl 2 rfl) ?_
  refine lv_iload hx hb d_M_times_82 (lv_at hl 3 rfl) ?_
  refine lv_lload hx hb d_M_times_84 (lv_at hl 0 rfl) ?_
  refine lv_l2i hx hb d_M_times_86 rfl ?_
  refine lv_topi (fun v2 ev => ?_)
  have hf := bn ev hf
  clear ev
  obtain ⟨hg, hf⟩ := gdp hf
  refine va_iast hx hb hK hP hD hS 2 1 rfl rfl (inb_in hg) d_M_times_87 (fun H locs hP hD hS => ?_)
  obtain ⟨f3, ev, hf⟩ := bne hf
  have hP : va_P D classes [(o, .inr (12, mo q z)), ((q 50), .inl (cy 1, 16, .inl u0)), (b1, .inl (cy 1, 8, .inl f3)), (b3, .inl (cy 1, 8, .inl h3))] H := by rw [ev]; exact hP
  have hD : va_D A [(o, .inr (12, mo q z)), ((q 50), .inl (cy 1, 16, .inl u0)), (b1, .inl (cy 1, 8, .inl f3)), (b3, .inl (cy 1, 8, .inl h3))] := by rw [ev]; exact hD
  clear ev
  refine lv_lload hx hb d_M_times_88 (lv_at hl 0 rfl) ?_
  refine lv_bipush (v := 32) hx hb d_M_times_90 (by decide) ?_
  refine lv_lushr hx hb d_M_times_92 rfl ?_
  refine lv_topl (fun v4 ev => ?_)
  have hf := bn ev hf
  clear ev
  refine lv_lstore (lv' := [(4, .long v4), (0, .ref o), (1, .ref b1), (6, .int x6)]) hx hb d_M_times_93 hl (by decide) rfl (fun ls hl => ?_)
  obtain ⟨v5, ev, hf⟩ := bne hf
  refine lv_iinc (v := v5) (lv' := [(6, .int v5), (4, .long v4), (0, .ref o), (1, .ref b1)]) hx hb d_M_times_95 hl (k := 3) rfl (by rw [ev]; rfl) (by decide) rfl (fun ls hl => ?_)
  clear ev
  refine lv_goto (tgt := 12) hx hb d_M_times_98 (by decide) ?_
  exact hk_12 _ _ _ _ _ hf _ _ _ hP hD hS (lv_sub hl [2, 3, 1, 0] rfl)
set_option maxHeartbeats 8000000 in
set_option maxRecDepth 100000 in
theorem wb_M_times_e21_12 {p : Program} {l : Launch} {e : Env} {s : State} {m : MethodId} {args : Array Value} {below : List Frame} {meth : Method} {c : Code} {D : va_G} {cy : Nat → ClassId} {A : Nat → Prop} {ad : Nat → Nat} {o : Nat} {q : Nat → Nat} {b1 : Nat} {b3 : Nat} {z : Nat → Int32} {h3 : Nat → Int32} {fu : Nat} {k_12 : Int64 → Int32 → (Nat → Int32) → (Nat → Int32) → Option ((Nat → Int32) × (Nat → Int32))} (F : Fx p s m args meth c b_M_times 9 "CoinKeeperModel" "times" none D cy ad A) (hk_12 : I_M_times_e21_12 p l e s m args below meth c D cy A ad o q b1 b3 z h3 k_12) : I_M_times_e21_12 p l e s m args below meth c D cy A ad o q b1 b3 z h3 (xb_M_times_e21_12 fu z h3 k_12) := by
  obtain ⟨hx, hb, hr, hml, hown, hts, hlocks, hK, hA, hSt, hnm, hex⟩ := id F
  intro x4 x6 u0 u1 res hf H locs ls hP hD hS hl
  unfold xb_M_times_e21_12 at hf
  refine lv_iload hx hb d_M_times_12 (lv_at hl 3 rfl) ?_
  refine lv_bipush (v := 8) hx hb d_M_times_14 (by decide) ?_
  refine lv_icmp_ge (tgt := 101) hx hb d_M_times_16 (by decide) (fun cx => ?_) (fun cx => ?_)
  · have hf := ifp cx hf
    refine lv_lload hx hb d_M_times_101 (lv_at hl 2 rfl) ?_
    refine lv_aload_n hx hb d_M_times_103 rfl (lv_at hl 0 rfl) ?_
    refine va_get (D := D) (ci := 12) (v := .ref (q 50)) (C := "CoinKeeperModel") (T := F_12) (N := 98) hx hb hts i_12 hown hK hP 0 rfl rfl 58 (by decide) (hts _ gw_1477) (fun _ h9 => h9) rfl d_M_times_104 ?_
    refine lv_bipush (v := 15) hx hb d_M_times_107 (by decide) ?_
    refine va_iald hx hb hK hP 1 1 rfl rfl (inb_in (by decide)) d_M_times_109 ?_
    refine lv_topi (fun v1 ev => ?_)
    have hf := bn ev hf
    clear ev
    refine lv_i2l hx hb d_M_times_110 rfl ?_
    refine lv_topl (fun v2 ev => ?_)
    have hf := bn ev hf
    clear ev
    refine lv_ldc2 (v := 4294967295) hx hb hown (hts _ gw_1390) d_M_times_111 ?_
    refine lv_land hx hb d_M_times_114 ?_
    refine lv_ladd hx hb d_M_times_115 ?_
    refine lv_topl (fun v3 ev => ?_)
    have hf := bn ev hf
    clear ev
    refine lv_lstore (lv' := [(6, .long v3), (0, .ref o), (1, .ref b1), (4, .long x4)]) hx hb d_M_times_116 hl (by decide) rfl (fun ls hl => ?_)
    exact w_M_times_e21_118 F fu _ _ _ _ hf _ _ _ hP hD hS (lv_sub hl [2, 0] rfl)
  · have hf := ifn cx hf
    refine lv_lload hx hb d_M_times_19 (lv_at hl 2 rfl) ?_
    refine lv_aload_n hx hb d_M_times_21 rfl (lv_at hl 0 rfl) ?_
    refine va_get (D := D) (ci := 12) (v := .ref (q 50)) (C := "CoinKeeperModel") (T := F_12) (N := 98) hx hb hts i_12 hown hK hP 0 rfl rfl 58 (by decide) (hts _ gw_1477) (fun _ h9 => h9) rfl d_M_times_22 ?_
    refine lv_iload hx hb d_M_times_25 (lv_at hl 3 rfl) ?_
    obtain ⟨hg, hf⟩ := gdp hf
    refine va_iald hx hb hK hP 1 1 rfl rfl (inb_in hg) d_M_times_27 ?_
    refine lv_topi (fun v4 ev => ?_)
    have hf := bn ev hf
    clear ev
    refine lv_i2l hx hb d_M_times_28 rfl ?_
    refine lv_topl (fun v5 ev => ?_)
    have hf := bn ev hf
    clear ev
    refine lv_ldc2 (v := 4294967295) hx hb hown (hts _ gw_1390) d_M_times_29 ?_
    refine lv_land hx hb d_M_times_32 ?_
    refine lv_topl (fun v6 ev => ?_)
    have hf := bn ev hf
    clear ev
    refine lv_aload_n hx hb d_M_times_33 rfl (lv_at hl 0 rfl) ?_
    refine va_get (D := D) (ci := 12) (v := .ref (q 50)) (C := "CoinKeeperModel") (T := F_12) (N := 98) hx hb hts i_12 hown hK hP 0 rfl rfl 58 (by decide) (hts _ gw_1477) (fun _ h9 => h9) rfl d_M_times_34 ?_
    refine lv_bipush (v := 8) hx hb d_M_times_37 (by decide) ?_
    refine lv_iload hx hb d_M_times_39 (lv_at hl 3 rfl) ?_
    refine lv_iadd hx hb d_M_times_41 ?_
    refine lv_topi (fun v7 ev => ?_)
    have hf := bn ev hf
    clear ev
    obtain ⟨hg, hf⟩ := gdp hf
    refine va_iald hx hb hK hP 1 1 rfl rfl (inb_in hg) d_M_times_42 ?_
    refine lv_topi (fun v8 ev => ?_)
    have hf := bn ev hf
    clear ev
    refine lv_i2l hx hb d_M_times_43 rfl ?_
    refine lv_topl (fun v9 ev => ?_)
    have hf := bn ev hf
    clear ev
    refine lv_ldc2 (v := 4294967295) hx hb hown (hts _ gw_1390) d_M_times_44 ?_
    refine lv_land hx hb d_M_times_47 ?_
    refine lv_topl (fun v10 ev => ?_)
    have hf := bn ev hf
    clear ev
    refine lv_ldc2 (v := 977) hx hb hown (hts _ gw_1984) d_M_times_48 ?_
    refine lv_lmul hx hb d_M_times_51 ?_
    refine lv_ladd hx hb d_M_times_52 ?_
    refine lv_topl (fun v11 ev => ?_)
    have hf := bn ev hf
    clear ev
    refine lv_iload hx hb d_M_times_53 (lv_at hl 3 rfl) ?_
    refine lv_if_le (tgt := 76) hx hb d_M_times_55 (by decide) (fun cx => ?_) (fun cx => ?_)
    · have hf := ifp cx hf
      refine lv_lconst (v := 0) hx hb d_M_times_76 (by decide) ?_
      exact wb_M_times_e21_77 (fu := fu) F hk_12 _ _ _ _ _ _ _ hf _ _ _ hP hD hS (lv_sub hl [0, 1, 3] rfl)
    · have hf := ifn cx hf
      refine lv_aload_n hx hb d_M_times_58 rfl (lv_at hl 0 rfl) ?_
      refine va_get (D := D) (ci := 12) (v := .ref (q 50)) (C := "CoinKeeperModel") (T := F_12) (N := 98) hx hb hts i_12 hown hK hP 0 rfl rfl 58 (by decide) (hts _ gw_1477) (fun _ h9 => h9) rfl d_M_times_59 ?_
      refine lv_bipush (v := 7) hx hb d_M_times_62 (by decide) ?_
      refine lv_iload hx hb d_M_times_64 (lv_at hl 3 rfl) ?_
      refine lv_iadd hx hb d_M_times_66 ?_
      refine lv_topi (fun v12 ev => ?_)
      have hf := bn ev hf
      clear ev
      obtain ⟨hg, hf⟩ := gdp hf
      refine va_iald hx hb hK hP 1 1 rfl rfl (inb_in hg) d_M_times_67 ?_
      refine lv_topi (fun v13 ev => ?_)
      have hf := bn ev hf
      clear ev
      refine lv_i2l hx hb d_M_times_68 rfl ?_
      refine lv_topl (fun v14 ev => ?_)
      have hf := bn ev hf
      clear ev
      refine lv_ldc2 (v := 4294967295) hx hb hown (hts _ gw_1390) d_M_times_69 ?_
      refine lv_land hx hb d_M_times_72 ?_
      refine lv_goto (tgt := 77) hx hb d_M_times_73 (by decide) ?_
      exact wb_M_times_e21_77 (fu := fu) F hk_12 _ _ _ _ _ _ _ hf _ _ _ hP hD hS (lv_sub hl [0, 1, 3] rfl)
theorem w_M_times_e21_12 {p : Program} {l : Launch} {e : Env} {s : State} {m : MethodId} {args : Array Value} {below : List Frame} {meth : Method} {c : Code} {D : va_G} {cy : Nat → ClassId} {A : Nat → Prop} {ad : Nat → Nat} {o : Nat} {q : Nat → Nat} {b1 : Nat} {b3 : Nat} {z : Nat → Int32} {h3 : Nat → Int32} {fu : Nat} (F : Fx p s m args meth c b_M_times 9 "CoinKeeperModel" "times" none D cy ad A) : ∀ n : Nat, I_M_times_e21_12 p l e s m args below meth c D cy A ad o q b1 b3 z h3 (x_M_times_e21_12 fu z h3 n)
  | 0 => fun _ _ _ _ _ hf => nomatch (show (none : Option ((Nat → Int32) × (Nat → Int32))) = some _ from hf)
  | n + 1 => wb_M_times_e21_12 F (w_M_times_e21_12 F n)
set_option maxHeartbeats 8000000 in
set_option maxRecDepth 100000 in
theorem we_M_times_e21 {p : Program} {l : Launch} {e : Env} {s : State} {m : MethodId} {args : Array Value} {below : List Frame} {meth : Method} {c : Code} {D : va_G} {cy : Nat → ClassId} {A : Nat → Prop} {ad : Nat → Nat} {o : Nat} {q : Nat → Nat} {b1 : Nat} {b3 : Nat} {z : Nat → Int32} {h3 : Nat → Int32} {fu : Nat} (F : Fx p s m args meth c b_M_times 9 "CoinKeeperModel" "times" none D cy ad A) : I_M_times_e21_e p l e s m args below meth c D cy A ad o q b1 b3 z h3 (x_M_times_e21 fu z h3) := by
  obtain ⟨hx, hb, hr, hml, hown, hts, hlocks, hK, hA, hSt, hnm, hex⟩ := id F
  intro u0 u1 res hf H locs ls hP hD hS hl
  unfold x_M_times_e21 at hf
  refine lv_aload_n hx hb d_M_times_0 rfl (lv_at hl 0 rfl) ?_
  refine lv_aload_n hx hb d_M_times_1 rfl (lv_at hl 2 rfl) ?_
  refine lv_aload_n hx hb d_M_times_2 rfl (lv_at hl 3 rfl) ?_
  obtain ⟨f1, hc, hf⟩ := bdp1 hf
  refine q_av (wr := []) (va_runV (C := "CoinKeeperModel") (As := [.ref b1, .ref b3]) (rest := []) ⟨hx, hb, hml, hown, hts⟩ (c_M_multiply l D cy ad fu o q b1 b3 z u1 h3 u0 _ hc H.size) ⟨q_cB hts gw_1983 gw_18 gw_1980 hdm_18 ⟨by decide, by decide⟩, hts _ gw_1982, hts _ gs_113⟩ (q_preV (q_pre (hP.sub [0, 1, 2, 3] rfl) (hD.sub [0, 1, 2, 3] (by decide) rfl) hK hSt hS (va_free hD hS hA [0, 1, 2, 3] rfl) _) (va_recv hK (hP.sub [0, 1, 2, 3] rfl) (ci := 12) (q0 := 0) rfl rfl)) rfl rfl hl.1 rfl (lv_room (Nat.le_of_ble_eq_true rfl)) d_M_times_3 ⟨Nat.le_of_ble_eq_true rfl, Nat.le_of_ble_eq_true rfl⟩) hP hD hS hA [0, 1, 2, 3] [] rfl rfl (by decide) (by decide) (fun H locs hP hD hS => ?_)
  clear hc
  have hP : va_P D classes [(o, .inr (12, mo q z)), ((q 50), .inl (cy 1, 16, .inl f1)), (b1, .inl (cy 1, 8, .inl u1)), (b3, .inl (cy 1, 8, .inl h3))] H := hP
  have hD : va_D A [(o, .inr (12, mo q z)), ((q 50), .inl (cy 1, 16, .inl f1)), (b1, .inl (cy 1, 8, .inl u1)), (b3, .inl (cy 1, 8, .inl h3))] := hD
  refine lv_lconst (v := 0) hx hb d_M_times_6 (by decide) ?_
  refine lv_lstore (lv' := [(4, .long (0 : Int64)), (0, .ref o), (1, .ref b1), (2, .ref b1), (3, .ref b3)]) hx hb d_M_times_7 hl (by decide) rfl (fun ls hl => ?_)
  refine lv_iconst (v := 0) hx hb d_M_times_9 (by decide) ?_
  refine lv_istore (lv' := [(6, .int (0 : Int32)), (4, .long (0 : Int64)), (0, .ref o), (1, .ref b1), (2, .ref b1), (3, .ref b3)]) hx hb d_M_times_10 hl (by decide) rfl (fun ls hl => ?_)
  exact w_M_times_e21_12 F fu _ _ _ _ _ hf _ _ _ hP hD hS (lv_sub hl [2, 3, 1, 0] rfl)
theorem c_M_times_e21 (l : Launch) (D : va_G) (cy : Nat → ClassId) (ad : Nat → Nat) (fu : Nat) (o : Nat) (q : Nat → Nat) (b1 : Nat) (b3 : Nat) (z : Nat → Int32) (h3 : Nat → Int32) (u0 : Nat → Int32) (u1 : Nat → Int32) (res : (Nat → Int32) × (Nat → Int32)) (hf : x_M_times_e21 fu z h3 u0 u1 = some res) (sz : Nat) : Met l ({ cls := "CoinKeeperModel", name := "times", desc := "([I[I[I)V" } : Jvm.MethodName) (.code ({ cls := "CoinKeeperModel", name := "times", desc := "([I[I[I)V" } : Jvm.MethodName) b_M_times 9 none :: gw) rm_M_times_e21 (va_Pc [.ref o, .ref b1, .ref b1, .ref b3] (Pr D cy ad [(o, .inr (12, mo q z)), ((q 50), .inl (cy 1, 16, .inl u0)), (b1, .inl (cy 1, 8, .inl u1)), (b3, .inl (cy 1, 8, .inl h3))] sz)) (q_M_times_e21 D cy (va_A [(o, .inr (12, mo q z)), ((q 50), .inl (cy 1, 16, .inl u0)), (b1, .inl (cy 1, 8, .inl u1)), (b3, .inl (cy 1, 8, .inl h3))] sz) o q b1 b3 z h3 res) 0 0 (va_A [(o, .inr (12, mo q z)), ((q 50), .inl (cy 1, 16, .inl u0)), (b1, .inl (cy 1, 8, .inl u1)), (b3, .inl (cy 1, 8, .inl h3))] sz) :=
  q_met (Qc := fun A => q_M_times_e21 D cy A o q b1 b3 z h3 res) (by decide) rfl rfl (Nat.le_of_ble_eq_true rfl) (fun p e s m below meth c ls F hP hD hS hl => we_M_times_e21 (fu := fu) F u0 u1 res hf _ _ _ hP hD hS hl) sz
abbrev b_M_add : ByteArray := prog_14_method_12_code
theorem d_M_add_0 : decode b_M_add 0 = .ok (.lconst 0, 1) := by decide +kernel
theorem d_M_add_1 : decode b_M_add 1 = .ok (.lstore_n 3, 1) := by decide +kernel
theorem d_M_add_2 : decode b_M_add 2 = .ok (.iconst 0, 1) := by decide +kernel
theorem d_M_add_3 : decode b_M_add 3 = .ok (.istore 5, 2) := by decide +kernel
theorem d_M_add_5 : decode b_M_add 5 = .ok (.iload 5, 2) := by decide +kernel
theorem d_M_add_7 : decode b_M_add 7 = .ok (.bipush 8, 2) := by decide +kernel
theorem d_M_add_9 : decode b_M_add 9 = .ok (.if_icmp .ge 42, 3) := by decide +kernel
theorem d_M_add_12 : decode b_M_add 12 = .ok (.lload_n 3, 1) := by decide +kernel
theorem d_M_add_13 : decode b_M_add 13 = .ok (.aload_n 1, 1) := by decide +kernel
theorem d_M_add_14 : decode b_M_add 14 = .ok (.iload 5, 2) := by decide +kernel
theorem d_M_add_16 : decode b_M_add 16 = .ok (.iaload, 1) := by decide +kernel
theorem d_M_add_17 : decode b_M_add 17 = .ok (.i2l, 1) := by decide +kernel
theorem d_M_add_18 : decode b_M_add 18 = .ok (.ldc2_w 332, 3) := by decide +kernel
theorem d_M_add_21 : decode b_M_add 21 = .ok (.land, 1) := by decide +kernel
theorem d_M_add_22 : decode b_M_add 22 = .ok (.aload_n 2, 1) := by decide +kernel
theorem d_M_add_23 : decode b_M_add 23 = .ok (.iload 5, 2) := by decide +kernel
theorem d_M_add_25 : decode b_M_add 25 = .ok (.iaload, 1) := by decide +kernel
theorem d_M_add_26 : decode b_M_add 26 = .ok (.i2l, 1) := by decide +kernel
theorem d_M_add_27 : decode b_M_add 27 = .ok (.ldc2_w 332, 3) := by decide +kernel
theorem d_M_add_30 : decode b_M_add 30 = .ok (.land, 1) := by decide +kernel
theorem d_M_add_31 : decode b_M_add 31 = .ok (.ladd, 1) := by decide +kernel
theorem d_M_add_32 : decode b_M_add 32 = .ok (.ladd, 1) := by decide +kernel
theorem d_M_add_33 : decode b_M_add 33 = .ok (.lstore_n 3, 1) := by decide +kernel
theorem d_M_add_34 : decode b_M_add 34 = .ok (.aload_n 0, 1) := by decide +kernel
theorem d_M_add_35 : decode b_M_add 35 = .ok (.iload 5, 2) := by decide +kernel
theorem d_M_add_37 : decode b_M_add 37 = .ok (.lload_n 3, 1) := by decide +kernel
theorem d_M_add_38 : decode b_M_add 38 = .ok (.l2i, 1) := by decide +kernel
theorem d_M_add_39 : decode b_M_add 39 = .ok (.iastore, 1) := by decide +kernel
theorem d_M_add_40 : decode b_M_add 40 = .ok (.lload_n 3, 1) := by decide +kernel
theorem d_M_add_41 : decode b_M_add 41 = .ok (.bipush 32, 2) := by decide +kernel
theorem d_M_add_43 : decode b_M_add 43 = .ok (.lushr, 1) := by decide +kernel
theorem d_M_add_44 : decode b_M_add 44 = .ok (.lstore_n 3, 1) := by decide +kernel
theorem d_M_add_45 : decode b_M_add 45 = .ok (.iinc 5 1, 3) := by decide +kernel
theorem d_M_add_48 : decode b_M_add 48 = .ok (.goto (-43), 3) := by decide +kernel
theorem d_M_add_51 : decode b_M_add 51 = .ok (.lload_n 3, 1) := by decide +kernel
theorem d_M_add_52 : decode b_M_add 52 = .ok (.l2i, 1) := by decide +kernel
theorem d_M_add_53 : decode b_M_add 53 = .ok (.ireturn, 1) := by decide +kernel
abbrev rm_M_add_e10 : Room := { frames := 0, cells := 0, slots := 0, locals := 0 }
abbrev q_M_add_e10 (D : va_G) (cy : Nat → ClassId) (A : Nat → Prop) (b0 : Nat) (b2 : Nat) (h2 : Nat → Int32) (res : Int32 × (Nat → Int32)) : Array Value → State → Outcome → State → Prop := va_Qi (fun r' (_ : Unit) => r' = res.1) (fun _ t => Po D cy A [(b0, .inl (cy 1, 8, .inl res.2)), (b2, .inl (cy 1, 8, .inl h2))] t) A
def I_M_add_e10_5 (p : Program) (l : Launch) (e : Env) (s : State) (m : MethodId) (args : Array Value) (below : List Frame) (meth : Method) (c : Code) (D : va_G) (cy : Nat → ClassId) (A : Nat → Prop) (ad : Nat → Nat) (b0 : Nat) (b2 : Nat) (h2 : Nat → Int32) (k : Int64 → Int32 → (Nat → Int32) → Option (Int32 × (Nat → Int32))) : Prop :=
  ∀ (x3 : Int64) (x5 : Int32) (u0 : Nat → Int32) (res : Int32 × (Nat → Int32)), k x3 x5 u0 = some res → ∀ (H : Heap) (locs : List Loc) (ls : Array Slot), va_P D classes [(b0, .inl (cy 1, 8, .inl u0)), (b2, .inl (cy 1, 8, .inl h2))] H → va_D A [(b0, .inl (cy 1, 8, .inl u0)), (b2, .inl (cy 1, 8, .inl h2))] → va_S A s.heap H locs → lv_has ls 6 [(0, .ref b0), (1, .ref b0), (2, .ref b2), (3, .long x3), (5, .int x5)] → W p l e rm_M_add_e10 s m args below meth c H locs 0 0 (MQ below (q_M_add_e10 D cy A b0 b2 h2 res) args s 0 0 A) (F0 m 5 ls [])
def I_M_add_e10_e (p : Program) (l : Launch) (e : Env) (s : State) (m : MethodId) (args : Array Value) (below : List Frame) (meth : Method) (c : Code) (D : va_G) (cy : Nat → ClassId) (A : Nat → Prop) (ad : Nat → Nat) (b0 : Nat) (b2 : Nat) (h2 : Nat → Int32) (k : (Nat → Int32) → Option (Int32 × (Nat → Int32))) : Prop :=
  ∀ (u0 : Nat → Int32) (res : Int32 × (Nat → Int32)), k u0 = some res → ∀ (H : Heap) (locs : List Loc) (ls : Array Slot), va_P D classes [(b0, .inl (cy 1, 8, .inl u0)), (b2, .inl (cy 1, 8, .inl h2))] H → va_D A [(b0, .inl (cy 1, 8, .inl u0)), (b2, .inl (cy 1, 8, .inl h2))] → va_S A s.heap H locs → lv_has ls 6 [(0, .ref b0), (1, .ref b0), (2, .ref b2)] → W p l e rm_M_add_e10 s m args below meth c H locs 0 0 (MQ below (q_M_add_e10 D cy A b0 b2 h2 res) args s 0 0 A) (F0 m 0 ls [])
set_option maxHeartbeats 8000000 in
set_option maxRecDepth 100000 in
theorem wb_M_add_e10_5 {p : Program} {l : Launch} {e : Env} {s : State} {m : MethodId} {args : Array Value} {below : List Frame} {meth : Method} {c : Code} {D : va_G} {cy : Nat → ClassId} {A : Nat → Prop} {ad : Nat → Nat} {b0 : Nat} {b2 : Nat} {h2 : Nat → Int32} {fu : Nat} {k_5 : Int64 → Int32 → (Nat → Int32) → Option (Int32 × (Nat → Int32))} (F : Fx p s m args meth c b_M_add 6 "CoinKeeperModel" "add" (some .int) D cy ad A) (hk_5 : I_M_add_e10_5 p l e s m args below meth c D cy A ad b0 b2 h2 k_5) : I_M_add_e10_5 p l e s m args below meth c D cy A ad b0 b2 h2 (xb_M_add_e10_5 fu h2 k_5) := by
  obtain ⟨hx, hb, hr, hml, hown, hts, hlocks, hK, hA, hSt, hnm, hex⟩ := id F
  intro x3 x5 u0 res hf H locs ls hP hD hS hl
  unfold xb_M_add_e10_5 at hf
  refine lv_iload hx hb d_M_add_5 (lv_at hl 4 rfl) ?_
  refine lv_bipush (v := 8) hx hb d_M_add_7 (by decide) ?_
  refine lv_icmp_ge (tgt := 51) hx hb d_M_add_9 (by decide) (fun cx => ?_) (fun cx => ?_)
  · have hf := ifp cx hf
    refine lv_lload_n hx hb d_M_add_51 rfl (lv_at hl 3 rfl) ?_
    refine lv_l2i hx hb d_M_add_52 rfl ?_
    refine lv_topi (fun v1 ev => ?_)
    have hf := bn ev hf
    clear ev
    obtain rfl := Option.some.inj hf
    exact q_ri hx hb hr hlocks hK hP hD hS d_M_add_53
  · have hf := ifn cx hf
    refine lv_lload_n hx hb d_M_add_12 rfl (lv_at hl 3 rfl) ?_
    refine lv_aload_n hx hb d_M_add_13 rfl (lv_at hl 1 rfl) ?_
    refine lv_iload hx hb d_M_add_14 (lv_at hl 4 rfl) ?_
    obtain ⟨hg, hf⟩ := gdp hf
    refine va_iald hx hb hK hP 0 1 rfl rfl (inb_in hg) d_M_add_16 ?_
    refine lv_topi (fun v2 ev => ?_)
    have hf := bn ev hf
    clear ev
    refine lv_i2l hx hb d_M_add_17 rfl ?_
    refine lv_topl (fun v3 ev => ?_)
    have hf := bn ev hf
    clear ev
    refine lv_ldc2 (v := 4294967295) hx hb hown (hts _ gw_1390) d_M_add_18 ?_
    refine lv_land hx hb d_M_add_21 ?_
    refine lv_topl (fun v4 ev => ?_)
    have hf := bn ev hf
    clear ev
    refine lv_aload_n hx hb d_M_add_22 rfl (lv_at hl 2 rfl) ?_
    refine lv_iload hx hb d_M_add_23 (lv_at hl 4 rfl) ?_
    obtain ⟨hg, hf⟩ := gdp hf
    refine va_iald hx hb hK hP 1 1 rfl rfl (inb_in hg) d_M_add_25 ?_
    refine lv_topi (fun v5 ev => ?_)
    have hf := bn ev hf
    clear ev
    refine lv_i2l hx hb d_M_add_26 rfl ?_
    refine lv_topl (fun v6 ev => ?_)
    have hf := bn ev hf
    clear ev
    refine lv_ldc2 (v := 4294967295) hx hb hown (hts _ gw_1390) d_M_add_27 ?_
    refine lv_land hx hb d_M_add_30 ?_
    refine lv_ladd hx hb d_M_add_31 ?_
    refine lv_ladd hx hb d_M_add_32 ?_
    refine lv_topl (fun v7 ev => ?_)
    have hf := bn ev hf
    clear ev
    refine lv_lstore_n (lv' := [(3, .long v7), (0, .ref b0), (1, .ref b0), (2, .ref b2), (5, .int x5)]) hx hb d_M_add_33 rfl hl (by decide) rfl (fun ls hl => ?_)
    refine lv_aload_n hx hb d_M_add_34 rfl (lv_at hl 1 rfl) ?_
    refine lv_iload hx hb d_M_add_35 (lv_at hl 4 rfl) ?_
    refine lv_lload_n hx hb d_M_add_37 rfl (lv_at hl 0 rfl) ?_
    refine lv_l2i hx hb d_M_add_38 rfl ?_
    refine lv_topi (fun v8 ev => ?_)
    have hf := bn ev hf
    clear ev
    obtain ⟨hg, hf⟩ := gdp hf
    refine va_iast hx hb hK hP hD hS 0 1 rfl rfl (inb_in hg) d_M_add_39 (fun H locs hP hD hS => ?_)
    obtain ⟨f9, ev, hf⟩ := bne hf
    have hP : va_P D classes [(b0, .inl (cy 1, 8, .inl f9)), (b2, .inl (cy 1, 8, .inl h2))] H := by rw [ev]; exact hP
    have hD : va_D A [(b0, .inl (cy 1, 8, .inl f9)), (b2, .inl (cy 1, 8, .inl h2))] := by rw [ev]; exact hD
    clear ev
    refine lv_lload_n hx hb d_M_add_40 rfl (lv_at hl 0 rfl) ?_
    refine lv_bipush (v := 32) hx hb d_M_add_41 (by decide) ?_
    refine lv_lushr hx hb d_M_add_43 rfl ?_
    refine lv_topl (fun v10 ev => ?_)
    have hf := bn ev hf
    clear ev
    refine lv_lstore_n (lv' := [(3, .long v10), (0, .ref b0), (1, .ref b0), (2, .ref b2), (5, .int x5)]) hx hb d_M_add_44 rfl hl (by decide) rfl (fun ls hl => ?_)
    obtain ⟨v11, ev, hf⟩ := bne hf
    refine lv_iinc (v := v11) (lv' := [(5, .int v11), (3, .long v10), (0, .ref b0), (1, .ref b0), (2, .ref b2)]) hx hb d_M_add_45 hl (k := 4) rfl (by rw [ev]; rfl) (by decide) rfl (fun ls hl => ?_)
    clear ev
    refine lv_goto (tgt := 5) hx hb d_M_add_48 (by decide) ?_
    exact hk_5 _ _ _ _ hf _ _ _ hP hD hS (lv_sub hl [2, 3, 4, 1, 0] rfl)
theorem w_M_add_e10_5 {p : Program} {l : Launch} {e : Env} {s : State} {m : MethodId} {args : Array Value} {below : List Frame} {meth : Method} {c : Code} {D : va_G} {cy : Nat → ClassId} {A : Nat → Prop} {ad : Nat → Nat} {b0 : Nat} {b2 : Nat} {h2 : Nat → Int32} {fu : Nat} (F : Fx p s m args meth c b_M_add 6 "CoinKeeperModel" "add" (some .int) D cy ad A) : ∀ n : Nat, I_M_add_e10_5 p l e s m args below meth c D cy A ad b0 b2 h2 (x_M_add_e10_5 fu h2 n)
  | 0 => fun _ _ _ _ hf => nomatch (show (none : Option (Int32 × (Nat → Int32))) = some _ from hf)
  | n + 1 => wb_M_add_e10_5 F (w_M_add_e10_5 F n)
set_option maxHeartbeats 8000000 in
set_option maxRecDepth 100000 in
theorem we_M_add_e10 {p : Program} {l : Launch} {e : Env} {s : State} {m : MethodId} {args : Array Value} {below : List Frame} {meth : Method} {c : Code} {D : va_G} {cy : Nat → ClassId} {A : Nat → Prop} {ad : Nat → Nat} {b0 : Nat} {b2 : Nat} {h2 : Nat → Int32} {fu : Nat} (F : Fx p s m args meth c b_M_add 6 "CoinKeeperModel" "add" (some .int) D cy ad A) : I_M_add_e10_e p l e s m args below meth c D cy A ad b0 b2 h2 (x_M_add_e10 fu h2) := by
  obtain ⟨hx, hb, hr, hml, hown, hts, hlocks, hK, hA, hSt, hnm, hex⟩ := id F
  intro u0 res hf H locs ls hP hD hS hl
  unfold x_M_add_e10 at hf
  refine lv_lconst (v := 0) hx hb d_M_add_0 (by decide) ?_
  refine lv_lstore_n (lv' := [(3, .long (0 : Int64)), (0, .ref b0), (1, .ref b0), (2, .ref b2)]) hx hb d_M_add_1 rfl hl (by decide) rfl (fun ls hl => ?_)
  refine lv_iconst (v := 0) hx hb d_M_add_2 (by decide) ?_
  refine lv_istore (lv' := [(5, .int (0 : Int32)), (3, .long (0 : Int64)), (0, .ref b0), (1, .ref b0), (2, .ref b2)]) hx hb d_M_add_3 hl (by decide) rfl (fun ls hl => ?_)
  exact w_M_add_e10_5 F fu _ _ _ _ hf _ _ _ hP hD hS (lv_sub hl [2, 3, 4, 1, 0] rfl)
theorem c_M_add_e10 (l : Launch) (D : va_G) (cy : Nat → ClassId) (ad : Nat → Nat) (fu : Nat) (b0 : Nat) (b2 : Nat) (h2 : Nat → Int32) (u0 : Nat → Int32) (res : Int32 × (Nat → Int32)) (hf : x_M_add_e10 fu h2 u0 = some res) (sz : Nat) : Met l ({ cls := "CoinKeeperModel", name := "add", desc := "([I[I[I)I" } : Jvm.MethodName) (.code ({ cls := "CoinKeeperModel", name := "add", desc := "([I[I[I)I" } : Jvm.MethodName) b_M_add 6 (some .int) :: gw) rm_M_add_e10 (va_Pc [.ref b0, .ref b0, .ref b2] (Pr D cy ad [(b0, .inl (cy 1, 8, .inl u0)), (b2, .inl (cy 1, 8, .inl h2))] sz)) (q_M_add_e10 D cy (va_A [(b0, .inl (cy 1, 8, .inl u0)), (b2, .inl (cy 1, 8, .inl h2))] sz) b0 b2 h2 res) 0 0 (va_A [(b0, .inl (cy 1, 8, .inl u0)), (b2, .inl (cy 1, 8, .inl h2))] sz) :=
  q_met (Qc := fun A => q_M_add_e10 D cy A b0 b2 h2 res) (by decide) rfl rfl (Nat.le_of_ble_eq_true rfl) (fun p e s m below meth c ls F hP hD hS hl => we_M_add_e10 (fu := fu) F u0 res hf _ _ _ hP hD hS hl) sz
abbrev b_M_plus : ByteArray := prog_14_method_26_code
theorem d_M_plus_0 : decode b_M_plus 0 = .ok (.aload_n 0, 1) := by decide +kernel
theorem d_M_plus_1 : decode b_M_plus 1 = .ok (.aload_n 1, 1) := by decide +kernel
theorem d_M_plus_2 : decode b_M_plus 2 = .ok (.aload_n 2, 1) := by decide +kernel
theorem d_M_plus_3 : decode b_M_plus 3 = .ok (.invokestatic 338, 3) := by decide +kernel
theorem d_M_plus_6 : decode b_M_plus 6 = .ok (.iconst 1, 1) := by decide +kernel
theorem d_M_plus_7 : decode b_M_plus 7 = .ok (.if_icmp .eq 13, 3) := by decide +kernel
theorem d_M_plus_10 : decode b_M_plus 10 = .ok (.aload_n 0, 1) := by decide +kernel
theorem d_M_plus_11 : decode b_M_plus 11 = .ok (.getstatic 375, 3) := by decide +kernel
theorem d_M_plus_14 : decode b_M_plus 14 = .ok (.invokestatic 346, 3) := by decide +kernel
theorem d_M_plus_17 : decode b_M_plus 17 = .ok (.ifCond .lt 12, 3) := by decide +kernel
theorem d_M_plus_20 : decode b_M_plus 20 = .ok (.aload_n 0, 1) := by decide +kernel
theorem d_M_plus_21 : decode b_M_plus 21 = .ok (.aload_n 0, 1) := by decide +kernel
theorem d_M_plus_22 : decode b_M_plus 22 = .ok (.getstatic 375, 3) := by decide +kernel
theorem d_M_plus_25 : decode b_M_plus 25 = .ok (.invokestatic 350, 3) := by decide +kernel
theorem d_M_plus_28 : decode b_M_plus 28 = .ok (.pop, 1) := by decide +kernel
theorem d_M_plus_29 : decode b_M_plus 29 = .ok (.return_, 1) := by decide +kernel
abbrev rm_M_plus_e10 : Room := { frames := 3, cells := 0, slots := 0, locals := 64 }
abbrev q_M_plus_e10 (D : va_G) (cy : Nat → ClassId) (A : Nat → Prop) (b0 : Nat) (b2 : Nat) (h2 : Nat → Int32) (res : (Nat → Int32)) : Array Value → State → Outcome → State → Prop := va_Qv (fun (_ : Unit) => True) (fun _ t => Po D cy A [(b0, .inl (cy 1, 8, .inl res)), (b2, .inl (cy 1, 8, .inl h2))] t) A
def I_M_plus_e10_20 (p : Program) (l : Launch) (e : Env) (s : State) (m : MethodId) (args : Array Value) (below : List Frame) (meth : Method) (c : Code) (D : va_G) (cy : Nat → ClassId) (A : Nat → Prop) (ad : Nat → Nat) (b0 : Nat) (b2 : Nat) (h2 : Nat → Int32) (k : (Nat → Int32) → Option ((Nat → Int32))) : Prop :=
  ∀ (u0 : Nat → Int32) (res : (Nat → Int32)), k u0 = some res → ∀ (H : Heap) (locs : List Loc) (ls : Array Slot), va_P D classes [(b0, .inl (cy 1, 8, .inl u0)), (b2, .inl (cy 1, 8, .inl h2))] H → va_D A [(b0, .inl (cy 1, 8, .inl u0)), (b2, .inl (cy 1, 8, .inl h2))] → va_S A s.heap H locs → lv_has ls 3 [(0, .ref b0)] → W p l e rm_M_plus_e10 s m args below meth c H locs 0 0 (MQ below (q_M_plus_e10 D cy A b0 b2 h2 res) args s 0 0 A) (F0 m 20 ls [])
def I_M_plus_e10_e (p : Program) (l : Launch) (e : Env) (s : State) (m : MethodId) (args : Array Value) (below : List Frame) (meth : Method) (c : Code) (D : va_G) (cy : Nat → ClassId) (A : Nat → Prop) (ad : Nat → Nat) (b0 : Nat) (b2 : Nat) (h2 : Nat → Int32) (k : (Nat → Int32) → Option ((Nat → Int32))) : Prop :=
  ∀ (u0 : Nat → Int32) (res : (Nat → Int32)), k u0 = some res → ∀ (H : Heap) (locs : List Loc) (ls : Array Slot), va_P D classes [(b0, .inl (cy 1, 8, .inl u0)), (b2, .inl (cy 1, 8, .inl h2))] H → va_D A [(b0, .inl (cy 1, 8, .inl u0)), (b2, .inl (cy 1, 8, .inl h2))] → va_S A s.heap H locs → lv_has ls 3 [(0, .ref b0), (1, .ref b0), (2, .ref b2)] → W p l e rm_M_plus_e10 s m args below meth c H locs 0 0 (MQ below (q_M_plus_e10 D cy A b0 b2 h2 res) args s 0 0 A) (F0 m 0 ls [])
set_option maxHeartbeats 8000000 in
set_option maxRecDepth 100000 in
theorem wb_M_plus_e10_20 {p : Program} {l : Launch} {e : Env} {s : State} {m : MethodId} {args : Array Value} {below : List Frame} {meth : Method} {c : Code} {D : va_G} {cy : Nat → ClassId} {A : Nat → Prop} {ad : Nat → Nat} {b0 : Nat} {b2 : Nat} {h2 : Nat → Int32} {fu : Nat} (F : Fx p s m args meth c b_M_plus 3 "CoinKeeperModel" "plus" none D cy ad A) : I_M_plus_e10_20 p l e s m args below meth c D cy A ad b0 b2 h2 (xb_M_plus_e10_20 fu h2) := by
  obtain ⟨hx, hb, hr, hml, hown, hts, hlocks, hK, hA, hSt, hnm, hex⟩ := id F
  intro u0 res hf H locs ls hP hD hS hl
  unfold xb_M_plus_e10_20 at hf
  refine lv_aload_n hx hb d_M_plus_20 rfl (lv_at hl 0 rfl) ?_
  refine lv_aload_n hx hb d_M_plus_21 rfl (lv_at hl 0 rfl) ?_
  refine va_gets hx hb (hSt.1 22 _ rfl).1 hS hown (hts _ gw_1974) (fun _ h9 => h9) d_M_plus_22 ?_
  obtain ⟨v1, f2, hc, hf⟩ := bdp2 hf
  refine q_ai (wr := [(b2, .inl (cy 1, 8, .inl h2))]) (va_runS (As := [.ref b0, .ref b0, .ref (ad 22)]) (rest := []) ⟨hx, hb, hml, hown, hts⟩ (c_M_sub_e10s2x22 l D cy ad fu b0 u0 _ hc H.size) ⟨q_cB hts gw_1414 gw_18 gw_1412 hdm_17 ⟨by decide, by decide⟩, hts _ gw_1413⟩ (q_pre (hP.sub [0] rfl) (hD.sub [0] (by decide) rfl) hK hSt hS (va_free hD hS hA [0] rfl) _) rfl rfl hl.1 rfl (lv_room (Nat.le_of_ble_eq_true rfl)) d_M_plus_25 ⟨Nat.le_of_ble_eq_true rfl, Nat.le_of_ble_eq_true rfl⟩) hP hD hS hA [0] [1] rfl rfl (by decide) (by decide) (fun H locs hP hD hS => ?_)
  clear hc
  have hP : va_P D classes [(b2, .inl (cy 1, 8, .inl h2)), (b0, .inl (cy 1, 8, .inl f2))] H := hP
  have hD : va_D A [(b2, .inl (cy 1, 8, .inl h2)), (b0, .inl (cy 1, 8, .inl f2))] := hD
  refine lv_pop hx hb d_M_plus_28 rfl ?_
  obtain rfl := Option.some.inj hf
  exact q_rv hx hb hr hlocks hK (hP.sub [1, 0] rfl) (hD.sub [1, 0] (by decide) rfl) hS d_M_plus_29
theorem hdm_19 : ({ cls := "CoinKeeperModel", name := "add", desc := "([I[I[I)I" } : Jvm.MethodName).cls ≠ "java/lang/invoke/MethodHandle" ∧ ({ cls := "CoinKeeperModel", name := "add", desc := "([I[I[I)I" } : Jvm.MethodName).cls ≠ "java/lang/invoke/VarHandle" ∧ (parseMethodDescriptor ({ cls := "CoinKeeperModel", name := "add", desc := "([I[I[I)I" } : Jvm.MethodName).desc).map (fun d => d.parameters.length) = some 3 := by decide +kernel
set_option maxHeartbeats 8000000 in
set_option maxRecDepth 100000 in
theorem we_M_plus_e10 {p : Program} {l : Launch} {e : Env} {s : State} {m : MethodId} {args : Array Value} {below : List Frame} {meth : Method} {c : Code} {D : va_G} {cy : Nat → ClassId} {A : Nat → Prop} {ad : Nat → Nat} {b0 : Nat} {b2 : Nat} {h2 : Nat → Int32} {fu : Nat} (F : Fx p s m args meth c b_M_plus 3 "CoinKeeperModel" "plus" none D cy ad A) : I_M_plus_e10_e p l e s m args below meth c D cy A ad b0 b2 h2 (x_M_plus_e10 fu h2) := by
  obtain ⟨hx, hb, hr, hml, hown, hts, hlocks, hK, hA, hSt, hnm, hex⟩ := id F
  intro u0 res hf H locs ls hP hD hS hl
  unfold x_M_plus_e10 at hf
  refine lv_aload_n hx hb d_M_plus_0 rfl (lv_at hl 0 rfl) ?_
  refine lv_aload_n hx hb d_M_plus_1 rfl (lv_at hl 1 rfl) ?_
  refine lv_aload_n hx hb d_M_plus_2 rfl (lv_at hl 2 rfl) ?_
  obtain ⟨v1, f2, hc, hf⟩ := bdp2 hf
  refine q_ai (wr := []) (va_runS (As := [.ref b0, .ref b0, .ref b2]) (rest := []) ⟨hx, hb, hml, hown, hts⟩ (c_M_add_e10 l D cy ad fu b0 b2 h2 u0 _ hc H.size) ⟨q_cB hts gw_1389 gw_18 gw_1387 hdm_19 ⟨by decide, by decide⟩, hts _ gw_1388⟩ (q_pre (hP.sub [0, 1] rfl) (hD.sub [0, 1] (by decide) rfl) hK hSt hS (va_free hD hS hA [0, 1] rfl) _) rfl rfl hl.1 rfl (lv_room (Nat.le_of_ble_eq_true rfl)) d_M_plus_3 ⟨Nat.le_of_ble_eq_true rfl, Nat.le_of_ble_eq_true rfl⟩) hP hD hS hA [0, 1] [] rfl rfl (by decide) (by decide) (fun H locs hP hD hS => ?_)
  clear hc
  have hP : va_P D classes [(b0, .inl (cy 1, 8, .inl f2)), (b2, .inl (cy 1, 8, .inl h2))] H := hP
  have hD : va_D A [(b0, .inl (cy 1, 8, .inl f2)), (b2, .inl (cy 1, 8, .inl h2))] := hD
  refine lv_iconst (v := 1) hx hb d_M_plus_6 (by decide) ?_
  refine lv_icmp_eq (tgt := 20) hx hb d_M_plus_7 (by decide) (fun cx => ?_) (fun cx => ?_)
  · have hf := ifp cx hf
    exact wb_M_plus_e10_20 (fu := fu) F _ _ hf _ _ _ hP hD hS (lv_sub hl [0] rfl)
  · have hf := ifn cx hf
    refine lv_aload_n hx hb d_M_plus_10 rfl (lv_at hl 0 rfl) ?_
    refine va_gets hx hb (hSt.1 22 _ rfl).1 hS hown (hts _ gw_1974) (fun _ h9 => h9) d_M_plus_11 ?_
    obtain ⟨v3, hc, hf⟩ := bdp1 hf
    refine q_ai (wr := [(b2, .inl (cy 1, 8, .inl h2))]) (va_runS (As := [.ref b0, .ref (ad 22)]) (rest := []) ⟨hx, hb, hml, hown, hts⟩ (c_M_compare_s1x22 l D cy ad fu b0 f2 _ hc H.size) ⟨q_cB hts gw_1404 gw_18 gw_1402 hdm_16 ⟨by decide, by decide⟩, hts _ gw_1403⟩ (q_pre (hP.sub [0] rfl) (hD.sub [0] (by decide) rfl) hK hSt hS (va_free hD hS hA [0] rfl) _) rfl rfl hl.1 rfl (lv_room (Nat.le_of_ble_eq_true rfl)) d_M_plus_14 ⟨Nat.le_of_ble_eq_true rfl, Nat.le_of_ble_eq_true rfl⟩) hP hD hS hA [0] [1] rfl rfl (by decide) (by decide) (fun H locs hP hD hS => ?_)
    clear hc
    have hP : va_P D classes [(b2, .inl (cy 1, 8, .inl h2)), (b0, .inl (cy 1, 8, .inl f2))] H := hP
    have hD : va_D A [(b2, .inl (cy 1, 8, .inl h2)), (b0, .inl (cy 1, 8, .inl f2))] := hD
    refine lv_if_lt (tgt := 29) hx hb d_M_plus_17 (by decide) (fun cx => ?_) (fun cx => ?_)
    · have hf := ifp cx hf
      obtain rfl := Option.some.inj hf
      exact q_rv hx hb hr hlocks hK (hP.sub [1, 0] rfl) (hD.sub [1, 0] (by decide) rfl) hS d_M_plus_29
    · have hf := ifn cx hf
      exact wb_M_plus_e10_20 (fu := fu) F _ _ hf _ _ _ (hP.sub (ws' := [(b0, .inl (cy 1, 8, .inl f2)), (b2, .inl (cy 1, 8, .inl h2))]) [1, 0] rfl) (hD.sub (ws' := [(b0, .inl (cy 1, 8, .inl f2)), (b2, .inl (cy 1, 8, .inl h2))]) [1, 0] (by decide) rfl) hS (lv_sub hl [0] rfl)
theorem c_M_plus_e10 (l : Launch) (D : va_G) (cy : Nat → ClassId) (ad : Nat → Nat) (fu : Nat) (b0 : Nat) (b2 : Nat) (h2 : Nat → Int32) (u0 : Nat → Int32) (res : (Nat → Int32)) (hf : x_M_plus_e10 fu h2 u0 = some res) (sz : Nat) : Met l ({ cls := "CoinKeeperModel", name := "plus", desc := "([I[I[I)V" } : Jvm.MethodName) (.code ({ cls := "CoinKeeperModel", name := "plus", desc := "([I[I[I)V" } : Jvm.MethodName) b_M_plus 3 none :: gw) rm_M_plus_e10 (va_Pc [.ref b0, .ref b0, .ref b2] (Pr D cy ad [(b0, .inl (cy 1, 8, .inl u0)), (b2, .inl (cy 1, 8, .inl h2))] sz)) (q_M_plus_e10 D cy (va_A [(b0, .inl (cy 1, 8, .inl u0)), (b2, .inl (cy 1, 8, .inl h2))] sz) b0 b2 h2 res) 0 0 (va_A [(b0, .inl (cy 1, 8, .inl u0)), (b2, .inl (cy 1, 8, .inl h2))] sz) :=
  q_met (Qc := fun A => q_M_plus_e10 D cy A b0 b2 h2 res) (by decide) rfl rfl (Nat.le_of_ble_eq_true rfl) (fun p e s m below meth c ls F hP hD hS hl => we_M_plus_e10 (fu := fu) F u0 res hf _ _ _ hP hD hS hl) sz
abbrev rm_M_add_s1x22 : Room := { frames := 0, cells := 0, slots := 0, locals := 0 }
abbrev q_M_add_s1x22 (D : va_G) (cy : Nat → ClassId) (A : Nat → Prop) (b0 : Nat) (b2 : Nat) (h2 : Nat → Int32) (res : Int32 × (Nat → Int32)) : Array Value → State → Outcome → State → Prop := va_Qi (fun r' (_ : Unit) => r' = res.1) (fun _ t => Po D cy A [(b0, .inl (cy 1, 8, .inl res.2)), (b2, .inl (cy 1, 8, .inl h2))] t) A
def I_M_add_s1x22_5 (p : Program) (l : Launch) (e : Env) (s : State) (m : MethodId) (args : Array Value) (below : List Frame) (meth : Method) (c : Code) (D : va_G) (cy : Nat → ClassId) (A : Nat → Prop) (ad : Nat → Nat) (b0 : Nat) (b2 : Nat) (h2 : Nat → Int32) (k : Int64 → Int32 → (Nat → Int32) → Option (Int32 × (Nat → Int32))) : Prop :=
  ∀ (x3 : Int64) (x5 : Int32) (u0 : Nat → Int32) (res : Int32 × (Nat → Int32)), k x3 x5 u0 = some res → ∀ (H : Heap) (locs : List Loc) (ls : Array Slot), va_P D classes [(b0, .inl (cy 1, 8, .inl u0)), (b2, .inl (cy 1, 8, .inl h2))] H → va_D A [(b0, .inl (cy 1, 8, .inl u0)), (b2, .inl (cy 1, 8, .inl h2))] → va_S A s.heap H locs → lv_has ls 6 [(0, .ref b0), (1, .ref (ad 22)), (2, .ref b2), (3, .long x3), (5, .int x5)] → W p l e rm_M_add_s1x22 s m args below meth c H locs 0 0 (MQ below (q_M_add_s1x22 D cy A b0 b2 h2 res) args s 0 0 A) (F0 m 5 ls [])
def I_M_add_s1x22_e (p : Program) (l : Launch) (e : Env) (s : State) (m : MethodId) (args : Array Value) (below : List Frame) (meth : Method) (c : Code) (D : va_G) (cy : Nat → ClassId) (A : Nat → Prop) (ad : Nat → Nat) (b0 : Nat) (b2 : Nat) (h2 : Nat → Int32) (k : (Nat → Int32) → Option (Int32 × (Nat → Int32))) : Prop :=
  ∀ (u0 : Nat → Int32) (res : Int32 × (Nat → Int32)), k u0 = some res → ∀ (H : Heap) (locs : List Loc) (ls : Array Slot), va_P D classes [(b0, .inl (cy 1, 8, .inl u0)), (b2, .inl (cy 1, 8, .inl h2))] H → va_D A [(b0, .inl (cy 1, 8, .inl u0)), (b2, .inl (cy 1, 8, .inl h2))] → va_S A s.heap H locs → lv_has ls 6 [(0, .ref b0), (1, .ref (ad 22)), (2, .ref b2)] → W p l e rm_M_add_s1x22 s m args below meth c H locs 0 0 (MQ below (q_M_add_s1x22 D cy A b0 b2 h2 res) args s 0 0 A) (F0 m 0 ls [])
set_option maxHeartbeats 8000000 in
set_option maxRecDepth 100000 in
theorem wb_M_add_s1x22_5 {p : Program} {l : Launch} {e : Env} {s : State} {m : MethodId} {args : Array Value} {below : List Frame} {meth : Method} {c : Code} {D : va_G} {cy : Nat → ClassId} {A : Nat → Prop} {ad : Nat → Nat} {b0 : Nat} {b2 : Nat} {h2 : Nat → Int32} {fu : Nat} {k_5 : Int64 → Int32 → (Nat → Int32) → Option (Int32 × (Nat → Int32))} (F : Fx p s m args meth c b_M_add 6 "CoinKeeperModel" "add" (some .int) D cy ad A) (hk_5 : I_M_add_s1x22_5 p l e s m args below meth c D cy A ad b0 b2 h2 k_5) : I_M_add_s1x22_5 p l e s m args below meth c D cy A ad b0 b2 h2 (xb_M_add_s1x22_5 fu h2 k_5) := by
  obtain ⟨hx, hb, hr, hml, hown, hts, hlocks, hK, hA, hSt, hnm, hex⟩ := id F
  intro x3 x5 u0 res hf H locs ls hP hD hS hl
  unfold xb_M_add_s1x22_5 at hf
  refine lv_iload hx hb d_M_add_5 (lv_at hl 4 rfl) ?_
  refine lv_bipush (v := 8) hx hb d_M_add_7 (by decide) ?_
  refine lv_icmp_ge (tgt := 51) hx hb d_M_add_9 (by decide) (fun cx => ?_) (fun cx => ?_)
  · have hf := ifp cx hf
    refine lv_lload_n hx hb d_M_add_51 rfl (lv_at hl 3 rfl) ?_
    refine lv_l2i hx hb d_M_add_52 rfl ?_
    refine lv_topi (fun v1 ev => ?_)
    have hf := bn ev hf
    clear ev
    obtain rfl := Option.some.inj hf
    exact q_ri hx hb hr hlocks hK hP hD hS d_M_add_53
  · have hf := ifn cx hf
    refine lv_lload_n hx hb d_M_add_12 rfl (lv_at hl 3 rfl) ?_
    refine lv_aload_n hx hb d_M_add_13 rfl (lv_at hl 1 rfl) ?_
    refine lv_iload hx hb d_M_add_14 (lv_at hl 4 rfl) ?_
    obtain ⟨hg, hf⟩ := gdp hf
    refine va_ti (v := .int (tb_22.getD x5.toNatClampNeg 0)) hx hb (hSt.1 22 _ rfl).2 hS (inb_in hg) rfl d_M_add_16 ?_
    refine lv_topi (fun v2 ev => ?_)
    have hf := bn ev hf
    clear ev
    refine lv_i2l hx hb d_M_add_17 rfl ?_
    refine lv_topl (fun v3 ev => ?_)
    have hf := bn ev hf
    clear ev
    refine lv_ldc2 (v := 4294967295) hx hb hown (hts _ gw_1390) d_M_add_18 ?_
    refine lv_land hx hb d_M_add_21 ?_
    refine lv_topl (fun v4 ev => ?_)
    have hf := bn ev hf
    clear ev
    refine lv_aload_n hx hb d_M_add_22 rfl (lv_at hl 2 rfl) ?_
    refine lv_iload hx hb d_M_add_23 (lv_at hl 4 rfl) ?_
    obtain ⟨hg, hf⟩ := gdp hf
    refine va_iald hx hb hK hP 1 1 rfl rfl (inb_in hg) d_M_add_25 ?_
    refine lv_topi (fun v5 ev => ?_)
    have hf := bn ev hf
    clear ev
    refine lv_i2l hx hb d_M_add_26 rfl ?_
    refine lv_topl (fun v6 ev => ?_)
    have hf := bn ev hf
    clear ev
    refine lv_ldc2 (v := 4294967295) hx hb hown (hts _ gw_1390) d_M_add_27 ?_
    refine lv_land hx hb d_M_add_30 ?_
    refine lv_ladd hx hb d_M_add_31 ?_
    refine lv_ladd hx hb d_M_add_32 ?_
    refine lv_topl (fun v7 ev => ?_)
    have hf := bn ev hf
    clear ev
    refine lv_lstore_n (lv' := [(3, .long v7), (0, .ref b0), (1, .ref (ad 22)), (2, .ref b2), (5, .int x5)]) hx hb d_M_add_33 rfl hl (by decide) rfl (fun ls hl => ?_)
    refine lv_aload_n hx hb d_M_add_34 rfl (lv_at hl 1 rfl) ?_
    refine lv_iload hx hb d_M_add_35 (lv_at hl 4 rfl) ?_
    refine lv_lload_n hx hb d_M_add_37 rfl (lv_at hl 0 rfl) ?_
    refine lv_l2i hx hb d_M_add_38 rfl ?_
    refine lv_topi (fun v8 ev => ?_)
    have hf := bn ev hf
    clear ev
    obtain ⟨hg, hf⟩ := gdp hf
    refine va_iast hx hb hK hP hD hS 0 1 rfl rfl (inb_in hg) d_M_add_39 (fun H locs hP hD hS => ?_)
    obtain ⟨f9, ev, hf⟩ := bne hf
    have hP : va_P D classes [(b0, .inl (cy 1, 8, .inl f9)), (b2, .inl (cy 1, 8, .inl h2))] H := by rw [ev]; exact hP
    have hD : va_D A [(b0, .inl (cy 1, 8, .inl f9)), (b2, .inl (cy 1, 8, .inl h2))] := by rw [ev]; exact hD
    clear ev
    refine lv_lload_n hx hb d_M_add_40 rfl (lv_at hl 0 rfl) ?_
    refine lv_bipush (v := 32) hx hb d_M_add_41 (by decide) ?_
    refine lv_lushr hx hb d_M_add_43 rfl ?_
    refine lv_topl (fun v10 ev => ?_)
    have hf := bn ev hf
    clear ev
    refine lv_lstore_n (lv' := [(3, .long v10), (0, .ref b0), (1, .ref (ad 22)), (2, .ref b2), (5, .int x5)]) hx hb d_M_add_44 rfl hl (by decide) rfl (fun ls hl => ?_)
    obtain ⟨v11, ev, hf⟩ := bne hf
    refine lv_iinc (v := v11) (lv' := [(5, .int v11), (3, .long v10), (0, .ref b0), (1, .ref (ad 22)), (2, .ref b2)]) hx hb d_M_add_45 hl (k := 4) rfl (by rw [ev]; rfl) (by decide) rfl (fun ls hl => ?_)
    clear ev
    refine lv_goto (tgt := 5) hx hb d_M_add_48 (by decide) ?_
    exact hk_5 _ _ _ _ hf _ _ _ hP hD hS (lv_sub hl [2, 3, 4, 1, 0] rfl)
theorem w_M_add_s1x22_5 {p : Program} {l : Launch} {e : Env} {s : State} {m : MethodId} {args : Array Value} {below : List Frame} {meth : Method} {c : Code} {D : va_G} {cy : Nat → ClassId} {A : Nat → Prop} {ad : Nat → Nat} {b0 : Nat} {b2 : Nat} {h2 : Nat → Int32} {fu : Nat} (F : Fx p s m args meth c b_M_add 6 "CoinKeeperModel" "add" (some .int) D cy ad A) : ∀ n : Nat, I_M_add_s1x22_5 p l e s m args below meth c D cy A ad b0 b2 h2 (x_M_add_s1x22_5 fu h2 n)
  | 0 => fun _ _ _ _ hf => nomatch (show (none : Option (Int32 × (Nat → Int32))) = some _ from hf)
  | n + 1 => wb_M_add_s1x22_5 F (w_M_add_s1x22_5 F n)
set_option maxHeartbeats 8000000 in
set_option maxRecDepth 100000 in
theorem we_M_add_s1x22 {p : Program} {l : Launch} {e : Env} {s : State} {m : MethodId} {args : Array Value} {below : List Frame} {meth : Method} {c : Code} {D : va_G} {cy : Nat → ClassId} {A : Nat → Prop} {ad : Nat → Nat} {b0 : Nat} {b2 : Nat} {h2 : Nat → Int32} {fu : Nat} (F : Fx p s m args meth c b_M_add 6 "CoinKeeperModel" "add" (some .int) D cy ad A) : I_M_add_s1x22_e p l e s m args below meth c D cy A ad b0 b2 h2 (x_M_add_s1x22 fu h2) := by
  obtain ⟨hx, hb, hr, hml, hown, hts, hlocks, hK, hA, hSt, hnm, hex⟩ := id F
  intro u0 res hf H locs ls hP hD hS hl
  unfold x_M_add_s1x22 at hf
  refine lv_lconst (v := 0) hx hb d_M_add_0 (by decide) ?_
  refine lv_lstore_n (lv' := [(3, .long (0 : Int64)), (0, .ref b0), (1, .ref (ad 22)), (2, .ref b2)]) hx hb d_M_add_1 rfl hl (by decide) rfl (fun ls hl => ?_)
  refine lv_iconst (v := 0) hx hb d_M_add_2 (by decide) ?_
  refine lv_istore (lv' := [(5, .int (0 : Int32)), (3, .long (0 : Int64)), (0, .ref b0), (1, .ref (ad 22)), (2, .ref b2)]) hx hb d_M_add_3 hl (by decide) rfl (fun ls hl => ?_)
  exact w_M_add_s1x22_5 F fu _ _ _ _ hf _ _ _ hP hD hS (lv_sub hl [2, 3, 4, 1, 0] rfl)
theorem c_M_add_s1x22 (l : Launch) (D : va_G) (cy : Nat → ClassId) (ad : Nat → Nat) (fu : Nat) (b0 : Nat) (b2 : Nat) (h2 : Nat → Int32) (u0 : Nat → Int32) (res : Int32 × (Nat → Int32)) (hf : x_M_add_s1x22 fu h2 u0 = some res) (sz : Nat) : Met l ({ cls := "CoinKeeperModel", name := "add", desc := "([I[I[I)I" } : Jvm.MethodName) (.code ({ cls := "CoinKeeperModel", name := "add", desc := "([I[I[I)I" } : Jvm.MethodName) b_M_add 6 (some .int) :: gw) rm_M_add_s1x22 (va_Pc [.ref b0, .ref (ad 22), .ref b2] (Pr D cy ad [(b0, .inl (cy 1, 8, .inl u0)), (b2, .inl (cy 1, 8, .inl h2))] sz)) (q_M_add_s1x22 D cy (va_A [(b0, .inl (cy 1, 8, .inl u0)), (b2, .inl (cy 1, 8, .inl h2))] sz) b0 b2 h2 res) 0 0 (va_A [(b0, .inl (cy 1, 8, .inl u0)), (b2, .inl (cy 1, 8, .inl h2))] sz) :=
  q_met (Qc := fun A => q_M_add_s1x22 D cy A b0 b2 h2 res) (by decide) rfl rfl (Nat.le_of_ble_eq_true rfl) (fun p e s m below meth c ls F hP hD hS hl => we_M_add_s1x22 (fu := fu) F u0 res hf _ _ _ hP hD hS hl) sz
abbrev b_M_half : ByteArray := prog_14_method_27_code
theorem d_M_half_0 : decode b_M_half 0 = .ok (.iconst 0, 1) := by decide +kernel
theorem d_M_half_1 : decode b_M_half 1 = .ok (.istore_n 2, 1) := by decide +kernel
theorem d_M_half_2 : decode b_M_half 2 = .ok (.iload_n 2, 1) := by decide +kernel
theorem d_M_half_3 : decode b_M_half 3 = .ok (.bipush 8, 2) := by decide +kernel
theorem d_M_half_5 : decode b_M_half 5 = .ok (.if_icmp .ge 36, 3) := by decide +kernel
theorem d_M_half_8 : decode b_M_half 8 = .ok (.aload_n 0, 1) := by decide +kernel
theorem d_M_half_9 : decode b_M_half 9 = .ok (.iload_n 2, 1) := by decide +kernel
theorem d_M_half_10 : decode b_M_half 10 = .ok (.aload_n 0, 1) := by decide +kernel
theorem d_M_half_11 : decode b_M_half 11 = .ok (.iload_n 2, 1) := by decide +kernel
theorem d_M_half_12 : decode b_M_half 12 = .ok (.iaload, 1) := by decide +kernel
theorem d_M_half_13 : decode b_M_half 13 = .ok (.iconst 1, 1) := by decide +kernel
theorem d_M_half_14 : decode b_M_half 14 = .ok (.iushr, 1) := by decide +kernel
theorem d_M_half_15 : decode b_M_half 15 = .ok (.iload_n 2, 1) := by decide +kernel
theorem d_M_half_16 : decode b_M_half 16 = .ok (.bipush 7, 2) := by decide +kernel
theorem d_M_half_18 : decode b_M_half 18 = .ok (.if_icmp .ge 11, 3) := by decide +kernel
theorem d_M_half_21 : decode b_M_half 21 = .ok (.aload_n 0, 1) := by decide +kernel
theorem d_M_half_22 : decode b_M_half 22 = .ok (.iload_n 2, 1) := by decide +kernel
theorem d_M_half_23 : decode b_M_half 23 = .ok (.iconst 1, 1) := by decide +kernel
theorem d_M_half_24 : decode b_M_half 24 = .ok (.iadd, 1) := by decide +kernel
theorem d_M_half_25 : decode b_M_half 25 = .ok (.iaload, 1) := by decide +kernel
theorem d_M_half_26 : decode b_M_half 26 = .ok (.goto 4, 3) := by decide +kernel
theorem d_M_half_29 : decode b_M_half 29 = .ok (.iload_n 1, 1) := by decide +kernel
theorem d_M_half_30 : decode b_M_half 30 = .ok (.bipush 31, 2) := by decide +kernel
theorem d_M_half_32 : decode b_M_half 32 = .ok (.ishl, 1) := by decide +kernel
theorem d_M_half_33 : decode b_M_half 33 = .ok (.ior, 1) := by decide +kernel
theorem d_M_half_34 : decode b_M_half 34 = .ok (.iastore, 1) := by decide +kernel
theorem d_M_half_35 : decode b_M_half 35 = .ok (.iinc 2 1, 3) := by decide +kernel
theorem d_M_half_38 : decode b_M_half 38 = .ok (.goto (-36), 3) := by decide +kernel
theorem d_M_half_41 : decode b_M_half 41 = .ok (.return_, 1) := by decide +kernel
abbrev rm_M_half : Room := { frames := 0, cells := 0, slots := 0, locals := 0 }
abbrev q_M_half (D : va_G) (cy : Nat → ClassId) (A : Nat → Prop) (b0 : Nat) (res : (Nat → Int32)) : Array Value → State → Outcome → State → Prop := va_Qv (fun (_ : Unit) => True) (fun _ t => Po D cy A [(b0, .inl (cy 1, 8, .inl res))] t) A
def I_M_half_30 (p : Program) (l : Launch) (e : Env) (s : State) (m : MethodId) (args : Array Value) (below : List Frame) (meth : Method) (c : Code) (D : va_G) (cy : Nat → ClassId) (A : Nat → Prop) (ad : Nat → Nat) (b0 : Nat) (k : Int32 → Int32 → Int32 → Int32 → Int32 → (Nat → Int32) → Option ((Nat → Int32))) : Prop :=
  ∀ (x1 : Int32) (x2 : Int32) (y0 : Int32) (y1 : Int32) (y2 : Int32) (u0 : Nat → Int32) (res : (Nat → Int32)), k x1 x2 y0 y1 y2 u0 = some res → ∀ (H : Heap) (locs : List Loc) (ls : Array Slot), va_P D classes [(b0, .inl (cy 1, 8, .inl u0))] H → va_D A [(b0, .inl (cy 1, 8, .inl u0))] → va_S A s.heap H locs → lv_has ls 3 [(0, .ref b0), (1, .int x1), (2, .int x2)] → W p l e rm_M_half s m args below meth c H locs 0 0 (MQ below (q_M_half D cy A b0 res) args s 0 0 A) (F0 m 30 ls [.int y0, .int y1, .int y2, .ref b0])
def I_M_half_2 (p : Program) (l : Launch) (e : Env) (s : State) (m : MethodId) (args : Array Value) (below : List Frame) (meth : Method) (c : Code) (D : va_G) (cy : Nat → ClassId) (A : Nat → Prop) (ad : Nat → Nat) (b0 : Nat) (k : Int32 → Int32 → (Nat → Int32) → Option ((Nat → Int32))) : Prop :=
  ∀ (x1 : Int32) (x2 : Int32) (u0 : Nat → Int32) (res : (Nat → Int32)), k x1 x2 u0 = some res → ∀ (H : Heap) (locs : List Loc) (ls : Array Slot), va_P D classes [(b0, .inl (cy 1, 8, .inl u0))] H → va_D A [(b0, .inl (cy 1, 8, .inl u0))] → va_S A s.heap H locs → lv_has ls 3 [(0, .ref b0), (1, .int x1), (2, .int x2)] → W p l e rm_M_half s m args below meth c H locs 0 0 (MQ below (q_M_half D cy A b0 res) args s 0 0 A) (F0 m 2 ls [])
def I_M_half_e (p : Program) (l : Launch) (e : Env) (s : State) (m : MethodId) (args : Array Value) (below : List Frame) (meth : Method) (c : Code) (D : va_G) (cy : Nat → ClassId) (A : Nat → Prop) (ad : Nat → Nat) (b0 : Nat) (k : Int32 → (Nat → Int32) → Option ((Nat → Int32))) : Prop :=
  ∀ (a1 : Int32) (u0 : Nat → Int32) (res : (Nat → Int32)), k a1 u0 = some res → ∀ (H : Heap) (locs : List Loc) (ls : Array Slot), va_P D classes [(b0, .inl (cy 1, 8, .inl u0))] H → va_D A [(b0, .inl (cy 1, 8, .inl u0))] → va_S A s.heap H locs → lv_has ls 3 [(0, .ref b0), (1, .int a1)] → W p l e rm_M_half s m args below meth c H locs 0 0 (MQ below (q_M_half D cy A b0 res) args s 0 0 A) (F0 m 0 ls [])
set_option maxHeartbeats 8000000 in
set_option maxRecDepth 100000 in
theorem wb_M_half_30 {p : Program} {l : Launch} {e : Env} {s : State} {m : MethodId} {args : Array Value} {below : List Frame} {meth : Method} {c : Code} {D : va_G} {cy : Nat → ClassId} {A : Nat → Prop} {ad : Nat → Nat} {b0 : Nat} {fu : Nat} {k_2 : Int32 → Int32 → (Nat → Int32) → Option ((Nat → Int32))} (F : Fx p s m args meth c b_M_half 3 "CoinKeeperModel" "half" none D cy ad A) (hk_2 : I_M_half_2 p l e s m args below meth c D cy A ad b0 k_2) : I_M_half_30 p l e s m args below meth c D cy A ad b0 (xb_M_half_30 fu k_2) := by
  obtain ⟨hx, hb, hr, hml, hown, hts, hlocks, hK, hA, hSt, hnm, hex⟩ := id F
  intro x1 x2 y0 y1 y2 u0 res hf H locs ls hP hD hS hl
  unfold xb_M_half_30 at hf
  refine lv_bipush (v := 31) hx hb d_M_half_30 (by decide) ?_
  refine lv_ishl hx hb d_M_half_32 ?_
  refine lv_ior hx hb d_M_half_33 ?_
  refine lv_topi (fun v1 ev => ?_)
  have hf := bn ev hf
  clear ev
  obtain ⟨hg, hf⟩ := gdp hf
  refine va_iast hx hb hK hP hD hS 0 1 rfl rfl (inb_in hg) d_M_half_34 (fun H locs hP hD hS => ?_)
  obtain ⟨f2, ev, hf⟩ := bne hf
  have hP : va_P D classes [(b0, .inl (cy 1, 8, .inl f2))] H := by rw [ev]; exact hP
  have hD : va_D A [(b0, .inl (cy 1, 8, .inl f2))] := by rw [ev]; exact hD
  clear ev
  obtain ⟨v3, ev, hf⟩ := bne hf
  refine lv_iinc (v := v3) (lv' := [(2, .int v3), (0, .ref b0), (1, .int x1)]) hx hb d_M_half_35 hl (k := 2) rfl (by rw [ev]; rfl) (by decide) rfl (fun ls hl => ?_)
  clear ev
  refine lv_goto (tgt := 2) hx hb d_M_half_38 (by decide) ?_
  exact hk_2 _ _ _ _ hf _ _ _ hP hD hS (lv_sub hl [1, 2, 0] rfl)
set_option maxHeartbeats 8000000 in
set_option maxRecDepth 100000 in
theorem wb_M_half_2 {p : Program} {l : Launch} {e : Env} {s : State} {m : MethodId} {args : Array Value} {below : List Frame} {meth : Method} {c : Code} {D : va_G} {cy : Nat → ClassId} {A : Nat → Prop} {ad : Nat → Nat} {b0 : Nat} {fu : Nat} {k_2 : Int32 → Int32 → (Nat → Int32) → Option ((Nat → Int32))} (F : Fx p s m args meth c b_M_half 3 "CoinKeeperModel" "half" none D cy ad A) (hk_2 : I_M_half_2 p l e s m args below meth c D cy A ad b0 k_2) : I_M_half_2 p l e s m args below meth c D cy A ad b0 (xb_M_half_2 fu k_2) := by
  obtain ⟨hx, hb, hr, hml, hown, hts, hlocks, hK, hA, hSt, hnm, hex⟩ := id F
  intro x1 x2 u0 res hf H locs ls hP hD hS hl
  unfold xb_M_half_2 at hf
  refine lv_iload_n hx hb d_M_half_2 rfl (lv_at hl 2 rfl) ?_
  refine lv_bipush (v := 8) hx hb d_M_half_3 (by decide) ?_
  refine lv_icmp_ge (tgt := 41) hx hb d_M_half_5 (by decide) (fun cx => ?_) (fun cx => ?_)
  · have hf := ifp cx hf
    obtain rfl := Option.some.inj hf
    exact q_rv hx hb hr hlocks hK hP hD hS d_M_half_41
  · have hf := ifn cx hf
    refine lv_aload_n hx hb d_M_half_8 rfl (lv_at hl 0 rfl) ?_
    refine lv_iload_n hx hb d_M_half_9 rfl (lv_at hl 2 rfl) ?_
    refine lv_aload_n hx hb d_M_half_10 rfl (lv_at hl 0 rfl) ?_
    refine lv_iload_n hx hb d_M_half_11 rfl (lv_at hl 2 rfl) ?_
    obtain ⟨hg, hf⟩ := gdp hf
    refine va_iald hx hb hK hP 0 1 rfl rfl (inb_in hg) d_M_half_12 ?_
    refine lv_topi (fun v1 ev => ?_)
    have hf := bn ev hf
    clear ev
    refine lv_iconst (v := 1) hx hb d_M_half_13 (by decide) ?_
    refine lv_iushr hx hb d_M_half_14 rfl ?_
    refine lv_topi (fun v2 ev => ?_)
    have hf := bn ev hf
    clear ev
    refine lv_iload_n hx hb d_M_half_15 rfl (lv_at hl 2 rfl) ?_
    refine lv_bipush (v := 7) hx hb d_M_half_16 (by decide) ?_
    refine lv_icmp_ge (tgt := 29) hx hb d_M_half_18 (by decide) (fun cx => ?_) (fun cx => ?_)
    · have hf := ifp cx hf
      refine lv_iload_n hx hb d_M_half_29 rfl (lv_at hl 1 rfl) ?_
      exact wb_M_half_30 (fu := fu) F hk_2 _ _ _ _ _ _ _ hf _ _ _ hP hD hS (lv_sub hl [0, 1, 2] rfl)
    · have hf := ifn cx hf
      refine lv_aload_n hx hb d_M_half_21 rfl (lv_at hl 0 rfl) ?_
      refine lv_iload_n hx hb d_M_half_22 rfl (lv_at hl 2 rfl) ?_
      refine lv_iconst (v := 1) hx hb d_M_half_23 (by decide) ?_
      refine lv_iadd hx hb d_M_half_24 ?_
      refine lv_topi (fun v3 ev => ?_)
      have hf := bn ev hf
      clear ev
      obtain ⟨hg, hf⟩ := gdp hf
      refine va_iald hx hb hK hP 0 1 rfl rfl (inb_in hg) d_M_half_25 ?_
      refine lv_topi (fun v4 ev => ?_)
      have hf := bn ev hf
      clear ev
      refine lv_goto (tgt := 30) hx hb d_M_half_26 (by decide) ?_
      exact wb_M_half_30 (fu := fu) F hk_2 _ _ _ _ _ _ _ hf _ _ _ hP hD hS (lv_sub hl [0, 1, 2] rfl)
theorem w_M_half_2 {p : Program} {l : Launch} {e : Env} {s : State} {m : MethodId} {args : Array Value} {below : List Frame} {meth : Method} {c : Code} {D : va_G} {cy : Nat → ClassId} {A : Nat → Prop} {ad : Nat → Nat} {b0 : Nat} {fu : Nat} (F : Fx p s m args meth c b_M_half 3 "CoinKeeperModel" "half" none D cy ad A) : ∀ n : Nat, I_M_half_2 p l e s m args below meth c D cy A ad b0 (x_M_half_2 fu n)
  | 0 => fun _ _ _ _ hf => nomatch (show (none : Option ((Nat → Int32))) = some _ from hf)
  | n + 1 => wb_M_half_2 F (w_M_half_2 F n)
set_option maxHeartbeats 8000000 in
set_option maxRecDepth 100000 in
theorem we_M_half {p : Program} {l : Launch} {e : Env} {s : State} {m : MethodId} {args : Array Value} {below : List Frame} {meth : Method} {c : Code} {D : va_G} {cy : Nat → ClassId} {A : Nat → Prop} {ad : Nat → Nat} {b0 : Nat} {fu : Nat} (F : Fx p s m args meth c b_M_half 3 "CoinKeeperModel" "half" none D cy ad A) : I_M_half_e p l e s m args below meth c D cy A ad b0 (x_M_half fu) := by
  obtain ⟨hx, hb, hr, hml, hown, hts, hlocks, hK, hA, hSt, hnm, hex⟩ := id F
  intro a1 u0 res hf H locs ls hP hD hS hl
  unfold x_M_half at hf
  refine lv_iconst (v := 0) hx hb d_M_half_0 (by decide) ?_
  refine lv_istore_n (lv' := [(2, .int (0 : Int32)), (0, .ref b0), (1, .int a1)]) hx hb d_M_half_1 rfl hl (by decide) rfl (fun ls hl => ?_)
  exact w_M_half_2 F fu _ _ _ _ hf _ _ _ hP hD hS (lv_sub hl [1, 2, 0] rfl)
theorem c_M_half (l : Launch) (D : va_G) (cy : Nat → ClassId) (ad : Nat → Nat) (fu : Nat) (b0 : Nat) (a1 : Int32) (u0 : Nat → Int32) (res : (Nat → Int32)) (hf : x_M_half fu a1 u0 = some res) (sz : Nat) : Met l ({ cls := "CoinKeeperModel", name := "half", desc := "([II)V" } : Jvm.MethodName) (.code ({ cls := "CoinKeeperModel", name := "half", desc := "([II)V" } : Jvm.MethodName) b_M_half 3 none :: gw) rm_M_half (va_Pc [.ref b0, .int a1] (Pr D cy ad [(b0, .inl (cy 1, 8, .inl u0))] sz)) (q_M_half D cy (va_A [(b0, .inl (cy 1, 8, .inl u0))] sz) b0 res) 0 0 (va_A [(b0, .inl (cy 1, 8, .inl u0))] sz) :=
  q_met (Qc := fun A => q_M_half D cy A b0 res) (by decide) rfl rfl (Nat.le_of_ble_eq_true rfl) (fun p e s m below meth c ls F hP hD hS hl => we_M_half (fu := fu) F a1 u0 res hf _ _ _ hP hD hS hl) sz
abbrev b_M_copy : ByteArray := prog_14_method_14_code
theorem d_M_copy_0 : decode b_M_copy 0 = .ok (.aload_n 1, 1) := by decide +kernel
theorem d_M_copy_1 : decode b_M_copy 1 = .ok (.iconst 0, 1) := by decide +kernel
theorem d_M_copy_2 : decode b_M_copy 2 = .ok (.aload_n 0, 1) := by decide +kernel
theorem d_M_copy_3 : decode b_M_copy 3 = .ok (.iconst 0, 1) := by decide +kernel
theorem d_M_copy_4 : decode b_M_copy 4 = .ok (.bipush 8, 2) := by decide +kernel
theorem d_M_copy_6 : decode b_M_copy 6 = .ok (.invokestatic 271, 3) := by decide +kernel
theorem d_M_copy_9 : decode b_M_copy 9 = .ok (.return_, 1) := by decide +kernel
abbrev rm_M_copy : Room := { frames := 1, cells := 0, slots := 0, locals := 26 }
abbrev q_M_copy (D : va_G) (cy : Nat → ClassId) (A : Nat → Prop) (b0 : Nat) (b1 : Nat) (h1 : Nat → Int32) (res : (Nat → Int32)) : Array Value → State → Outcome → State → Prop := va_Qv (fun (_ : Unit) => True) (fun _ t => Po D cy A [(b0, .inl (cy 1, 8, .inl res)), (b1, .inl (cy 1, 8, .inl h1))] t) A
def I_M_copy_e (p : Program) (l : Launch) (e : Env) (s : State) (m : MethodId) (args : Array Value) (below : List Frame) (meth : Method) (c : Code) (D : va_G) (cy : Nat → ClassId) (A : Nat → Prop) (ad : Nat → Nat) (b0 : Nat) (b1 : Nat) (h1 : Nat → Int32) (k : (Nat → Int32) → Option ((Nat → Int32))) : Prop :=
  ∀ (u0 : Nat → Int32) (res : (Nat → Int32)), k u0 = some res → ∀ (H : Heap) (locs : List Loc) (ls : Array Slot), va_P D classes [(b0, .inl (cy 1, 8, .inl u0)), (b1, .inl (cy 1, 8, .inl h1))] H → va_D A [(b0, .inl (cy 1, 8, .inl u0)), (b1, .inl (cy 1, 8, .inl h1))] → va_S A s.heap H locs → lv_has ls 2 [(0, .ref b0), (1, .ref b1)] → W p l e rm_M_copy s m args below meth c H locs 0 0 (MQ below (q_M_copy D cy A b0 b1 h1 res) args s 0 0 A) (F0 m 0 ls [])
set_option maxHeartbeats 8000000 in
set_option maxRecDepth 100000 in
theorem we_M_copy {p : Program} {l : Launch} {e : Env} {s : State} {m : MethodId} {args : Array Value} {below : List Frame} {meth : Method} {c : Code} {D : va_G} {cy : Nat → ClassId} {A : Nat → Prop} {ad : Nat → Nat} {b0 : Nat} {b1 : Nat} {h1 : Nat → Int32} {fu : Nat} (F : Fx p s m args meth c b_M_copy 2 "CoinKeeperModel" "copy" none D cy ad A) : I_M_copy_e p l e s m args below meth c D cy A ad b0 b1 h1 (x_M_copy fu h1) := by
  obtain ⟨hx, hb, hr, hml, hown, hts, hlocks, hK, hA, hSt, hnm, hex⟩ := id F
  intro u0 res hf H locs ls hP hD hS hl
  unfold x_M_copy at hf
  refine lv_aload_n hx hb d_M_copy_0 rfl (lv_at hl 1 rfl) ?_
  refine lv_iconst (v := 0) hx hb d_M_copy_1 (by decide) ?_
  refine lv_aload_n hx hb d_M_copy_2 rfl (lv_at hl 0 rfl) ?_
  refine lv_iconst (v := 0) hx hb d_M_copy_3 (by decide) ?_
  refine lv_bipush (v := 8) hx hb d_M_copy_4 (by decide) ?_
  obtain ⟨hg, hf⟩ := gdp hf
  refine va_copyi (rest := []) hx hb (hml.trans hl.1.symm) hown (hts _ gw_1398) (hts _ gw_497) (hts _ gw_496) (hts _ gw_17) hK hP hD hS 1 0 1 1 rfl rfl rfl rfl rfl (cpk_p hg).1 (cpk_p hg).2.1 (cpk_p hg).2.2.1 (cpk_p hg).2.2.2.1 (cpk_p hg).2.2.2.2 (fun _ _ => rfl) (by decide) (by decide) d_M_copy_6 (fun H locs hP hD hS => ?_)
  obtain ⟨f1, ev, hf⟩ := bne hf
  have hP : va_P D classes [(b0, .inl (cy 1, 8, .inl f1)), (b1, .inl (cy 1, 8, .inl h1))] H := by rw [ev]; exact hP
  have hD : va_D A [(b0, .inl (cy 1, 8, .inl f1)), (b1, .inl (cy 1, 8, .inl h1))] := by rw [ev]; exact hD
  clear ev
  obtain rfl := Option.some.inj hf
  exact q_rv hx hb hr hlocks hK hP hD hS d_M_copy_9
theorem c_M_copy (l : Launch) (D : va_G) (cy : Nat → ClassId) (ad : Nat → Nat) (fu : Nat) (b0 : Nat) (b1 : Nat) (h1 : Nat → Int32) (u0 : Nat → Int32) (res : (Nat → Int32)) (hf : x_M_copy fu h1 u0 = some res) (sz : Nat) : Met l ({ cls := "CoinKeeperModel", name := "copy", desc := "([I[I)V" } : Jvm.MethodName) (.code ({ cls := "CoinKeeperModel", name := "copy", desc := "([I[I)V" } : Jvm.MethodName) b_M_copy 2 none :: gw) rm_M_copy (va_Pc [.ref b0, .ref b1] (Pr D cy ad [(b0, .inl (cy 1, 8, .inl u0)), (b1, .inl (cy 1, 8, .inl h1))] sz)) (q_M_copy D cy (va_A [(b0, .inl (cy 1, 8, .inl u0)), (b1, .inl (cy 1, 8, .inl h1))] sz) b0 b1 h1 res) 0 0 (va_A [(b0, .inl (cy 1, 8, .inl u0)), (b1, .inl (cy 1, 8, .inl h1))] sz) :=
  q_met (Qc := fun A => q_M_copy D cy A b0 b1 h1 res) (by decide) rfl rfl (Nat.le_of_ble_eq_true rfl) (fun p e s m below meth c ls F hP hD hS hl => we_M_copy (fu := fu) F u0 res hf _ _ _ hP hD hS hl) sz
abbrev rm_M_compare : Room := { frames := 2, cells := 0, slots := 0, locals := 42 }
abbrev q_M_compare (D : va_G) (cy : Nat → ClassId) (A : Nat → Prop) (b0 : Nat) (b1 : Nat) (h0 : Nat → Int32) (h1 : Nat → Int32) (res : Int32) : Array Value → State → Outcome → State → Prop := va_Qi (fun r' (_ : Unit) => r' = res) (fun _ t => Po D cy A [(b0, .inl (cy 1, 8, .inl h0)), (b1, .inl (cy 1, 8, .inl h1))] t) A
def I_M_compare_3 (p : Program) (l : Launch) (e : Env) (s : State) (m : MethodId) (args : Array Value) (below : List Frame) (meth : Method) (c : Code) (D : va_G) (cy : Nat → ClassId) (A : Nat → Prop) (ad : Nat → Nat) (b0 : Nat) (b1 : Nat) (h0 : Nat → Int32) (h1 : Nat → Int32) (k : Int32 → Option (Int32)) : Prop :=
  ∀ (x2 : Int32) (res : Int32), k x2 = some res → ∀ (H : Heap) (locs : List Loc) (ls : Array Slot), va_P D classes [(b0, .inl (cy 1, 8, .inl h0)), (b1, .inl (cy 1, 8, .inl h1))] H → va_D A [(b0, .inl (cy 1, 8, .inl h0)), (b1, .inl (cy 1, 8, .inl h1))] → va_S A s.heap H locs → lv_has ls 3 [(0, .ref b0), (1, .ref b1), (2, .int x2)] → W p l e rm_M_compare s m args below meth c H locs 0 0 (MQ below (q_M_compare D cy A b0 b1 h0 h1 res) args s 0 0 A) (F0 m 3 ls [])
def I_M_compare_e (p : Program) (l : Launch) (e : Env) (s : State) (m : MethodId) (args : Array Value) (below : List Frame) (meth : Method) (c : Code) (D : va_G) (cy : Nat → ClassId) (A : Nat → Prop) (ad : Nat → Nat) (b0 : Nat) (b1 : Nat) (h0 : Nat → Int32) (h1 : Nat → Int32) (k : Option (Int32)) : Prop :=
  ∀ (res : Int32), k  = some res → ∀ (H : Heap) (locs : List Loc) (ls : Array Slot), va_P D classes [(b0, .inl (cy 1, 8, .inl h0)), (b1, .inl (cy 1, 8, .inl h1))] H → va_D A [(b0, .inl (cy 1, 8, .inl h0)), (b1, .inl (cy 1, 8, .inl h1))] → va_S A s.heap H locs → lv_has ls 3 [(0, .ref b0), (1, .ref b1)] → W p l e rm_M_compare s m args below meth c H locs 0 0 (MQ below (q_M_compare D cy A b0 b1 h0 h1 res) args s 0 0 A) (F0 m 0 ls [])
set_option maxHeartbeats 8000000 in
set_option maxRecDepth 100000 in
theorem wb_M_compare_3 {p : Program} {l : Launch} {e : Env} {s : State} {m : MethodId} {args : Array Value} {below : List Frame} {meth : Method} {c : Code} {D : va_G} {cy : Nat → ClassId} {A : Nat → Prop} {ad : Nat → Nat} {b0 : Nat} {b1 : Nat} {h0 : Nat → Int32} {h1 : Nat → Int32} {fu : Nat} {k_3 : Int32 → Option (Int32)} (F : Fx p s m args meth c b_M_compare 3 "CoinKeeperModel" "compare" (some .int) D cy ad A) (hk_3 : I_M_compare_3 p l e s m args below meth c D cy A ad b0 b1 h0 h1 k_3) : I_M_compare_3 p l e s m args below meth c D cy A ad b0 b1 h0 h1 (xb_M_compare_3 fu h0 h1 k_3) := by
  obtain ⟨hx, hb, hr, hml, hown, hts, hlocks, hK, hA, hSt, hnm, hex⟩ := id F
  intro x2 res hf H locs ls hP hD hS hl
  unfold xb_M_compare_3 at hf
  refine lv_iload_n hx hb d_M_compare_3 rfl (lv_at hl 2 rfl) ?_
  refine lv_if_lt (tgt := 32) hx hb d_M_compare_4 (by decide) (fun cx => ?_) (fun cx => ?_)
  · have hf := ifp cx hf
    refine lv_iconst (v := 0) hx hb d_M_compare_32 (by decide) ?_
    obtain rfl := Option.some.inj hf
    exact q_ri hx hb hr hlocks hK hP hD hS d_M_compare_33
  · have hf := ifn cx hf
    refine lv_aload_n hx hb d_M_compare_7 rfl (lv_at hl 0 rfl) ?_
    refine lv_iload_n hx hb d_M_compare_8 rfl (lv_at hl 2 rfl) ?_
    obtain ⟨hg, hf⟩ := gdp hf
    refine va_iald hx hb hK hP 0 1 rfl rfl (inb_in hg) d_M_compare_9 ?_
    refine lv_topi (fun v1 ev => ?_)
    have hf := bn ev hf
    clear ev
    refine lv_aload_n hx hb d_M_compare_10 rfl (lv_at hl 1 rfl) ?_
    refine lv_iload_n hx hb d_M_compare_11 rfl (lv_at hl 2 rfl) ?_
    obtain ⟨hg, hf⟩ := gdp hf
    refine va_iald hx hb hK hP 1 1 rfl rfl (inb_in hg) d_M_compare_12 ?_
    refine lv_topi (fun v2 ev => ?_)
    have hf := bn ev hf
    clear ev
    refine lv_icmp_eq (tgt := 26) hx hb d_M_compare_13 (by decide) (fun cx => ?_) (fun cx => ?_)
    · have hf := ifp cx hf
      obtain ⟨v3, ev, hf⟩ := bne hf
      refine lv_iinc (v := v3) (lv' := [(2, .int v3), (0, .ref b0), (1, .ref b1)]) hx hb d_M_compare_26 hl (k := 2) rfl (by rw [ev]; rfl) (by decide) rfl (fun ls hl => ?_)
      clear ev
      refine lv_goto (tgt := 3) hx hb d_M_compare_29 (by decide) ?_
      exact hk_3 _ _ hf _ _ _ hP hD hS (lv_sub hl [1, 2, 0] rfl)
    · have hf := ifn cx hf
      refine lv_aload_n hx hb d_M_compare_16 rfl (lv_at hl 0 rfl) ?_
      refine lv_iload_n hx hb d_M_compare_17 rfl (lv_at hl 2 rfl) ?_
      obtain ⟨hg, hf⟩ := gdp hf
      refine va_iald hx hb hK hP 0 1 rfl rfl (inb_in hg) d_M_compare_18 ?_
      refine lv_topi (fun v4 ev => ?_)
      have hf := bn ev hf
      clear ev
      refine lv_aload_n hx hb d_M_compare_19 rfl (lv_at hl 1 rfl) ?_
      refine lv_iload_n hx hb d_M_compare_20 rfl (lv_at hl 2 rfl) ?_
      obtain ⟨hg, hf⟩ := gdp hf
      refine va_iald hx hb hK hP 1 1 rfl rfl (inb_in hg) d_M_compare_21 ?_
      refine lv_topi (fun v5 ev => ?_)
      have hf := bn ev hf
      clear ev
      obtain ⟨v6, hc, hf⟩ := bdp1 hf
      refine q_ai (wr := [(b0, .inl (cy 1, 8, .inl h0)), (b1, .inl (cy 1, 8, .inl h1))]) (va_runS (As := [.int v4, .int v5]) (rest := []) ⟨hx, hb, hml, hown, hts⟩ (c_Ig_compareUnsigned l D cy ad fu v4 v5 _ hc H.size) ⟨q_cB hts gw_1407 gw_19 gw_1405 hdm_15 ⟨by decide, by decide⟩, hts _ gw_1406⟩ (q_pre (hP.sub [] rfl) (hD.sub [] (by decide) rfl) hK hSt hS (va_free hD hS hA [] rfl) _) rfl rfl hl.1 rfl (lv_room (Nat.le_of_ble_eq_true rfl)) d_M_compare_22 ⟨Nat.le_of_ble_eq_true rfl, Nat.le_of_ble_eq_true rfl⟩) hP hD hS hA [] [0, 1] rfl rfl (by decide) (by decide) (fun H locs hP hD hS => ?_)
      clear hc
      have hP : va_P D classes [(b0, .inl (cy 1, 8, .inl h0)), (b1, .inl (cy 1, 8, .inl h1))] H := hP
      have hD : va_D A [(b0, .inl (cy 1, 8, .inl h0)), (b1, .inl (cy 1, 8, .inl h1))] := hD
      obtain rfl := Option.some.inj hf
      exact q_ri hx hb hr hlocks hK hP hD hS d_M_compare_25
theorem w_M_compare_3 {p : Program} {l : Launch} {e : Env} {s : State} {m : MethodId} {args : Array Value} {below : List Frame} {meth : Method} {c : Code} {D : va_G} {cy : Nat → ClassId} {A : Nat → Prop} {ad : Nat → Nat} {b0 : Nat} {b1 : Nat} {h0 : Nat → Int32} {h1 : Nat → Int32} {fu : Nat} (F : Fx p s m args meth c b_M_compare 3 "CoinKeeperModel" "compare" (some .int) D cy ad A) : ∀ n : Nat, I_M_compare_3 p l e s m args below meth c D cy A ad b0 b1 h0 h1 (x_M_compare_3 fu h0 h1 n)
  | 0 => fun _ _ hf => nomatch (show (none : Option (Int32)) = some _ from hf)
  | n + 1 => wb_M_compare_3 F (w_M_compare_3 F n)
set_option maxHeartbeats 8000000 in
set_option maxRecDepth 100000 in
theorem we_M_compare {p : Program} {l : Launch} {e : Env} {s : State} {m : MethodId} {args : Array Value} {below : List Frame} {meth : Method} {c : Code} {D : va_G} {cy : Nat → ClassId} {A : Nat → Prop} {ad : Nat → Nat} {b0 : Nat} {b1 : Nat} {h0 : Nat → Int32} {h1 : Nat → Int32} {fu : Nat} (F : Fx p s m args meth c b_M_compare 3 "CoinKeeperModel" "compare" (some .int) D cy ad A) : I_M_compare_e p l e s m args below meth c D cy A ad b0 b1 h0 h1 (x_M_compare fu h0 h1) := by
  obtain ⟨hx, hb, hr, hml, hown, hts, hlocks, hK, hA, hSt, hnm, hex⟩ := id F
  intro  res hf H locs ls hP hD hS hl
  unfold x_M_compare at hf
  refine lv_bipush (v := 7) hx hb d_M_compare_0 (by decide) ?_
  refine lv_istore_n (lv' := [(2, .int (7 : Int32)), (0, .ref b0), (1, .ref b1)]) hx hb d_M_compare_2 rfl hl (by decide) rfl (fun ls hl => ?_)
  exact w_M_compare_3 F fu _ _ hf _ _ _ hP hD hS (lv_sub hl [1, 2, 0] rfl)
theorem c_M_compare (l : Launch) (D : va_G) (cy : Nat → ClassId) (ad : Nat → Nat) (fu : Nat) (b0 : Nat) (b1 : Nat) (h0 : Nat → Int32) (h1 : Nat → Int32) (res : Int32) (hf : x_M_compare fu h0 h1 = some res) (sz : Nat) : Met l ({ cls := "CoinKeeperModel", name := "compare", desc := "([I[I)I" } : Jvm.MethodName) (.code ({ cls := "CoinKeeperModel", name := "compare", desc := "([I[I)I" } : Jvm.MethodName) b_M_compare 3 (some .int) :: gw) rm_M_compare (va_Pc [.ref b0, .ref b1] (Pr D cy ad [(b0, .inl (cy 1, 8, .inl h0)), (b1, .inl (cy 1, 8, .inl h1))] sz)) (q_M_compare D cy (va_A [(b0, .inl (cy 1, 8, .inl h0)), (b1, .inl (cy 1, 8, .inl h1))] sz) b0 b1 h0 h1 res) 0 0 (va_A [(b0, .inl (cy 1, 8, .inl h0)), (b1, .inl (cy 1, 8, .inl h1))] sz) :=
  q_met (Qc := fun A => q_M_compare D cy A b0 b1 h0 h1 res) (by decide) rfl rfl (Nat.le_of_ble_eq_true rfl) (fun p e s m below meth c ls F hP hD hS hl => we_M_compare (fu := fu) F  res hf _ _ _ hP hD hS hl) sz
abbrev rm_M_sub_s1x22e20 : Room := { frames := 0, cells := 0, slots := 0, locals := 0 }
abbrev q_M_sub_s1x22e20 (D : va_G) (cy : Nat → ClassId) (A : Nat → Prop) (b0 : Nat) (res : Int32 × (Nat → Int32)) : Array Value → State → Outcome → State → Prop := va_Qi (fun r' (_ : Unit) => r' = res.1) (fun _ t => Po D cy A [(b0, .inl (cy 1, 8, .inl res.2))] t) A
def I_M_sub_s1x22e20_5 (p : Program) (l : Launch) (e : Env) (s : State) (m : MethodId) (args : Array Value) (below : List Frame) (meth : Method) (c : Code) (D : va_G) (cy : Nat → ClassId) (A : Nat → Prop) (ad : Nat → Nat) (b0 : Nat) (k : Int64 → Int32 → (Nat → Int32) → Option (Int32 × (Nat → Int32))) : Prop :=
  ∀ (x3 : Int64) (x5 : Int32) (u0 : Nat → Int32) (res : Int32 × (Nat → Int32)), k x3 x5 u0 = some res → ∀ (H : Heap) (locs : List Loc) (ls : Array Slot), va_P D classes [(b0, .inl (cy 1, 8, .inl u0))] H → va_D A [(b0, .inl (cy 1, 8, .inl u0))] → va_S A s.heap H locs → lv_has ls 6 [(0, .ref b0), (1, .ref (ad 22)), (2, .ref b0), (3, .long x3), (5, .int x5)] → W p l e rm_M_sub_s1x22e20 s m args below meth c H locs 0 0 (MQ below (q_M_sub_s1x22e20 D cy A b0 res) args s 0 0 A) (F0 m 5 ls [])
def I_M_sub_s1x22e20_e (p : Program) (l : Launch) (e : Env) (s : State) (m : MethodId) (args : Array Value) (below : List Frame) (meth : Method) (c : Code) (D : va_G) (cy : Nat → ClassId) (A : Nat → Prop) (ad : Nat → Nat) (b0 : Nat) (k : (Nat → Int32) → Option (Int32 × (Nat → Int32))) : Prop :=
  ∀ (u0 : Nat → Int32) (res : Int32 × (Nat → Int32)), k u0 = some res → ∀ (H : Heap) (locs : List Loc) (ls : Array Slot), va_P D classes [(b0, .inl (cy 1, 8, .inl u0))] H → va_D A [(b0, .inl (cy 1, 8, .inl u0))] → va_S A s.heap H locs → lv_has ls 6 [(0, .ref b0), (1, .ref (ad 22)), (2, .ref b0)] → W p l e rm_M_sub_s1x22e20 s m args below meth c H locs 0 0 (MQ below (q_M_sub_s1x22e20 D cy A b0 res) args s 0 0 A) (F0 m 0 ls [])
set_option maxHeartbeats 8000000 in
set_option maxRecDepth 100000 in
theorem wb_M_sub_s1x22e20_5 {p : Program} {l : Launch} {e : Env} {s : State} {m : MethodId} {args : Array Value} {below : List Frame} {meth : Method} {c : Code} {D : va_G} {cy : Nat → ClassId} {A : Nat → Prop} {ad : Nat → Nat} {b0 : Nat} {fu : Nat} {k_5 : Int64 → Int32 → (Nat → Int32) → Option (Int32 × (Nat → Int32))} (F : Fx p s m args meth c b_M_sub 6 "CoinKeeperModel" "sub" (some .int) D cy ad A) (hk_5 : I_M_sub_s1x22e20_5 p l e s m args below meth c D cy A ad b0 k_5) : I_M_sub_s1x22e20_5 p l e s m args below meth c D cy A ad b0 (xb_M_sub_s1x22e20_5 fu k_5) := by
  obtain ⟨hx, hb, hr, hml, hown, hts, hlocks, hK, hA, hSt, hnm, hex⟩ := id F
  intro x3 x5 u0 res hf H locs ls hP hD hS hl
  unfold xb_M_sub_s1x22e20_5 at hf
  refine lv_iload hx hb d_M_sub_5 (lv_at hl 4 rfl) ?_
  refine lv_bipush (v := 8) hx hb d_M_sub_7 (by decide) ?_
  refine lv_icmp_ge (tgt := 51) hx hb d_M_sub_9 (by decide) (fun cx => ?_) (fun cx => ?_)
  · have hf := ifp cx hf
    refine lv_lload_n hx hb d_M_sub_51 rfl (lv_at hl 3 rfl) ?_
    refine lv_l2i hx hb d_M_sub_52 rfl ?_
    refine lv_topi (fun v1 ev => ?_)
    have hf := bn ev hf
    clear ev
    obtain rfl := Option.some.inj hf
    exact q_ri hx hb hr hlocks hK hP hD hS d_M_sub_53
  · have hf := ifn cx hf
    refine lv_aload_n hx hb d_M_sub_12 rfl (lv_at hl 1 rfl) ?_
    refine lv_iload hx hb d_M_sub_13 (lv_at hl 4 rfl) ?_
    obtain ⟨hg, hf⟩ := gdp hf
    refine va_ti (v := .int (tb_22.getD x5.toNatClampNeg 0)) hx hb (hSt.1 22 _ rfl).2 hS (inb_in hg) rfl d_M_sub_15 ?_
    refine lv_topi (fun v2 ev => ?_)
    have hf := bn ev hf
    clear ev
    refine lv_i2l hx hb d_M_sub_16 rfl ?_
    refine lv_topl (fun v3 ev => ?_)
    have hf := bn ev hf
    clear ev
    refine lv_ldc2 (v := 4294967295) hx hb hown (hts _ gw_1390) d_M_sub_17 ?_
    refine lv_land hx hb d_M_sub_20 ?_
    refine lv_topl (fun v4 ev => ?_)
    have hf := bn ev hf
    clear ev
    refine lv_aload_n hx hb d_M_sub_21 rfl (lv_at hl 2 rfl) ?_
    refine lv_iload hx hb d_M_sub_22 (lv_at hl 4 rfl) ?_
    obtain ⟨hg, hf⟩ := gdp hf
    refine va_iald hx hb hK hP 0 1 rfl rfl (inb_in hg) d_M_sub_24 ?_
    refine lv_topi (fun v5 ev => ?_)
    have hf := bn ev hf
    clear ev
    refine lv_i2l hx hb d_M_sub_25 rfl ?_
    refine lv_topl (fun v6 ev => ?_)
    have hf := bn ev hf
    clear ev
    refine lv_ldc2 (v := 4294967295) hx hb hown (hts _ gw_1390) d_M_sub_26 ?_
    refine lv_land hx hb d_M_sub_29 ?_
    refine lv_lsub hx hb d_M_sub_30 ?_
    refine lv_topl (fun v7 ev => ?_)
    have hf := bn ev hf
    clear ev
    refine lv_lload_n hx hb d_M_sub_31 rfl (lv_at hl 3 rfl) ?_
    refine lv_ladd hx hb d_M_sub_32 ?_
    refine lv_topl (fun v8 ev => ?_)
    have hf := bn ev hf
    clear ev
    refine lv_lstore_n (lv' := [(3, .long v8), (0, .ref b0), (1, .ref (ad 22)), (2, .ref b0), (5, .int x5)]) hx hb d_M_sub_33 rfl hl (by decide) rfl (fun ls hl => ?_)
    refine lv_aload_n hx hb d_M_sub_34 rfl (lv_at hl 1 rfl) ?_
    refine lv_iload hx hb d_M_sub_35 (lv_at hl 4 rfl) ?_
    refine lv_lload_n hx hb d_M_sub_37 rfl (lv_at hl 0 rfl) ?_
    refine lv_l2i hx hb d_M_sub_38 rfl ?_
    refine lv_topi (fun v9 ev => ?_)
    have hf := bn ev hf
    clear ev
    obtain ⟨hg, hf⟩ := gdp hf
    refine va_iast hx hb hK hP hD hS 0 1 rfl rfl (inb_in hg) d_M_sub_39 (fun H locs hP hD hS => ?_)
    obtain ⟨f10, ev, hf⟩ := bne hf
    have hP : va_P D classes [(b0, .inl (cy 1, 8, .inl f10))] H := by rw [ev]; exact hP
    have hD : va_D A [(b0, .inl (cy 1, 8, .inl f10))] := by rw [ev]; exact hD
    clear ev
    refine lv_lload_n hx hb d_M_sub_40 rfl (lv_at hl 0 rfl) ?_
    refine lv_bipush (v := 32) hx hb d_M_sub_41 (by decide) ?_
    refine lv_lshr hx hb d_M_sub_43 rfl ?_
    refine lv_topl (fun v11 ev => ?_)
    have hf := bn ev hf
    clear ev
    refine lv_lstore_n (lv' := [(3, .long v11), (0, .ref b0), (1, .ref (ad 22)), (2, .ref b0), (5, .int x5)]) hx hb d_M_sub_44 rfl hl (by decide) rfl (fun ls hl => ?_)
    obtain ⟨v12, ev, hf⟩ := bne hf
    refine lv_iinc (v := v12) (lv' := [(5, .int v12), (3, .long v11), (0, .ref b0), (1, .ref (ad 22)), (2, .ref b0)]) hx hb d_M_sub_45 hl (k := 4) rfl (by rw [ev]; rfl) (by decide) rfl (fun ls hl => ?_)
    clear ev
    refine lv_goto (tgt := 5) hx hb d_M_sub_48 (by decide) ?_
    exact hk_5 _ _ _ _ hf _ _ _ hP hD hS (lv_sub hl [2, 3, 4, 1, 0] rfl)
theorem w_M_sub_s1x22e20_5 {p : Program} {l : Launch} {e : Env} {s : State} {m : MethodId} {args : Array Value} {below : List Frame} {meth : Method} {c : Code} {D : va_G} {cy : Nat → ClassId} {A : Nat → Prop} {ad : Nat → Nat} {b0 : Nat} {fu : Nat} (F : Fx p s m args meth c b_M_sub 6 "CoinKeeperModel" "sub" (some .int) D cy ad A) : ∀ n : Nat, I_M_sub_s1x22e20_5 p l e s m args below meth c D cy A ad b0 (x_M_sub_s1x22e20_5 fu n)
  | 0 => fun _ _ _ _ hf => nomatch (show (none : Option (Int32 × (Nat → Int32))) = some _ from hf)
  | n + 1 => wb_M_sub_s1x22e20_5 F (w_M_sub_s1x22e20_5 F n)
set_option maxHeartbeats 8000000 in
set_option maxRecDepth 100000 in
theorem we_M_sub_s1x22e20 {p : Program} {l : Launch} {e : Env} {s : State} {m : MethodId} {args : Array Value} {below : List Frame} {meth : Method} {c : Code} {D : va_G} {cy : Nat → ClassId} {A : Nat → Prop} {ad : Nat → Nat} {b0 : Nat} {fu : Nat} (F : Fx p s m args meth c b_M_sub 6 "CoinKeeperModel" "sub" (some .int) D cy ad A) : I_M_sub_s1x22e20_e p l e s m args below meth c D cy A ad b0 (x_M_sub_s1x22e20 fu) := by
  obtain ⟨hx, hb, hr, hml, hown, hts, hlocks, hK, hA, hSt, hnm, hex⟩ := id F
  intro u0 res hf H locs ls hP hD hS hl
  unfold x_M_sub_s1x22e20 at hf
  refine lv_lconst (v := 0) hx hb d_M_sub_0 (by decide) ?_
  refine lv_lstore_n (lv' := [(3, .long (0 : Int64)), (0, .ref b0), (1, .ref (ad 22)), (2, .ref b0)]) hx hb d_M_sub_1 rfl hl (by decide) rfl (fun ls hl => ?_)
  refine lv_iconst (v := 0) hx hb d_M_sub_2 (by decide) ?_
  refine lv_istore (lv' := [(5, .int (0 : Int32)), (3, .long (0 : Int64)), (0, .ref b0), (1, .ref (ad 22)), (2, .ref b0)]) hx hb d_M_sub_3 hl (by decide) rfl (fun ls hl => ?_)
  exact w_M_sub_s1x22e20_5 F fu _ _ _ _ hf _ _ _ hP hD hS (lv_sub hl [2, 3, 4, 1, 0] rfl)
theorem c_M_sub_s1x22e20 (l : Launch) (D : va_G) (cy : Nat → ClassId) (ad : Nat → Nat) (fu : Nat) (b0 : Nat) (u0 : Nat → Int32) (res : Int32 × (Nat → Int32)) (hf : x_M_sub_s1x22e20 fu u0 = some res) (sz : Nat) : Met l ({ cls := "CoinKeeperModel", name := "sub", desc := "([I[I[I)I" } : Jvm.MethodName) (.code ({ cls := "CoinKeeperModel", name := "sub", desc := "([I[I[I)I" } : Jvm.MethodName) b_M_sub 6 (some .int) :: gw) rm_M_sub_s1x22e20 (va_Pc [.ref b0, .ref (ad 22), .ref b0] (Pr D cy ad [(b0, .inl (cy 1, 8, .inl u0))] sz)) (q_M_sub_s1x22e20 D cy (va_A [(b0, .inl (cy 1, 8, .inl u0))] sz) b0 res) 0 0 (va_A [(b0, .inl (cy 1, 8, .inl u0))] sz) :=
  q_met (Qc := fun A => q_M_sub_s1x22e20 D cy A b0 res) (by decide) rfl rfl (Nat.le_of_ble_eq_true rfl) (fun p e s m below meth c ls F hP hD hS hl => we_M_sub_s1x22e20 (fu := fu) F u0 res hf _ _ _ hP hD hS hl) sz
abbrev rm_M_times_e21e31 : Room := { frames := 3, cells := 0, slots := 0, locals := 64 }
abbrev q_M_times_e21e31 (D : va_G) (cy : Nat → ClassId) (A : Nat → Prop) (o : Nat) (q : Nat → Nat) (b1 : Nat) (z : Nat → Int32) (res : (Nat → Int32) × (Nat → Int32)) : Array Value → State → Outcome → State → Prop := va_Qv (fun (_ : Unit) => True) (fun _ t => Po D cy A [(o, .inr (12, mo q z)), ((q 50), .inl (cy 1, 16, .inl res.1)), (b1, .inl (cy 1, 8, .inl res.2))] t) A
def I_M_times_e21e31_175 (p : Program) (l : Launch) (e : Env) (s : State) (m : MethodId) (args : Array Value) (below : List Frame) (meth : Method) (c : Code) (D : va_G) (cy : Nat → ClassId) (A : Nat → Prop) (ad : Nat → Nat) (o : Nat) (q : Nat → Nat) (b1 : Nat) (z : Nat → Int32) (k : Int64 → Int32 → Int64 → Int64 → Int64 → (Nat → Int32) → (Nat → Int32) → Option ((Nat → Int32) × (Nat → Int32))) : Prop :=
  ∀ (x6 : Int64) (x8 : Int32) (y0 : Int64) (y1 : Int64) (y2 : Int64) (u0 : Nat → Int32) (u1 : Nat → Int32) (res : (Nat → Int32) × (Nat → Int32)), k x6 x8 y0 y1 y2 u0 u1 = some res → ∀ (H : Heap) (locs : List Loc) (ls : Array Slot), va_P D classes [(o, .inr (12, mo q z)), ((q 50), .inl (cy 1, 16, .inl u0)), (b1, .inl (cy 1, 8, .inl u1))] H → va_D A [(o, .inr (12, mo q z)), ((q 50), .inl (cy 1, 16, .inl u0)), (b1, .inl (cy 1, 8, .inl u1))] → va_S A s.heap H locs → lv_has ls 9 [(1, .ref b1), (6, .long x6), (8, .int x8)] → W p l e rm_M_times_e21e31 s m args below meth c H locs 0 0 (MQ below (q_M_times_e21e31 D cy A o q b1 z res) args s 0 0 A) (F0 m 175 ls [.long y0, .long y1, .long y2])
def I_M_times_e21e31_131 (p : Program) (l : Launch) (e : Env) (s : State) (m : MethodId) (args : Array Value) (below : List Frame) (meth : Method) (c : Code) (D : va_G) (cy : Nat → ClassId) (A : Nat → Prop) (ad : Nat → Nat) (o : Nat) (q : Nat → Nat) (b1 : Nat) (z : Nat → Int32) (k : Int64 → Int64 → Int32 → (Nat → Int32) → (Nat → Int32) → Option ((Nat → Int32) × (Nat → Int32))) : Prop :=
  ∀ (x4 : Int64) (x6 : Int64) (x8 : Int32) (u0 : Nat → Int32) (u1 : Nat → Int32) (res : (Nat → Int32) × (Nat → Int32)), k x4 x6 x8 u0 u1 = some res → ∀ (H : Heap) (locs : List Loc) (ls : Array Slot), va_P D classes [(o, .inr (12, mo q z)), ((q 50), .inl (cy 1, 16, .inl u0)), (b1, .inl (cy 1, 8, .inl u1))] H → va_D A [(o, .inr (12, mo q z)), ((q 50), .inl (cy 1, 16, .inl u0)), (b1, .inl (cy 1, 8, .inl u1))] → va_S A s.heap H locs → lv_has ls 9 [(1, .ref b1), (4, .long x4), (6, .long x6), (8, .int x8)] → W p l e rm_M_times_e21e31 s m args below meth c H locs 0 0 (MQ below (q_M_times_e21e31 D cy A o q b1 z res) args s 0 0 A) (F0 m 131 ls [])
def I_M_times_e21e31_118 (p : Program) (l : Launch) (e : Env) (s : State) (m : MethodId) (args : Array Value) (below : List Frame) (meth : Method) (c : Code) (D : va_G) (cy : Nat → ClassId) (A : Nat → Prop) (ad : Nat → Nat) (o : Nat) (q : Nat → Nat) (b1 : Nat) (z : Nat → Int32) (k : Int64 → (Nat → Int32) → (Nat → Int32) → Option ((Nat → Int32) × (Nat → Int32))) : Prop :=
  ∀ (x6 : Int64) (u0 : Nat → Int32) (u1 : Nat → Int32) (res : (Nat → Int32) × (Nat → Int32)), k x6 u0 u1 = some res → ∀ (H : Heap) (locs : List Loc) (ls : Array Slot), va_P D classes [(o, .inr (12, mo q z)), ((q 50), .inl (cy 1, 16, .inl u0)), (b1, .inl (cy 1, 8, .inl u1))] H → va_D A [(o, .inr (12, mo q z)), ((q 50), .inl (cy 1, 16, .inl u0)), (b1, .inl (cy 1, 8, .inl u1))] → va_S A s.heap H locs → lv_has ls 9 [(1, .ref b1), (6, .long x6)] → W p l e rm_M_times_e21e31 s m args below meth c H locs 0 0 (MQ below (q_M_times_e21e31 D cy A o q b1 z res) args s 0 0 A) (F0 m 118 ls [])
def I_M_times_e21e31_77 (p : Program) (l : Launch) (e : Env) (s : State) (m : MethodId) (args : Array Value) (below : List Frame) (meth : Method) (c : Code) (D : va_G) (cy : Nat → ClassId) (A : Nat → Prop) (ad : Nat → Nat) (o : Nat) (q : Nat → Nat) (b1 : Nat) (z : Nat → Int32) (k : Int32 → Int64 → Int64 → Int64 → (Nat → Int32) → (Nat → Int32) → Option ((Nat → Int32) × (Nat → Int32))) : Prop :=
  ∀ (x6 : Int32) (y0 : Int64) (y1 : Int64) (y2 : Int64) (u0 : Nat → Int32) (u1 : Nat → Int32) (res : (Nat → Int32) × (Nat → Int32)), k x6 y0 y1 y2 u0 u1 = some res → ∀ (H : Heap) (locs : List Loc) (ls : Array Slot), va_P D classes [(o, .inr (12, mo q z)), ((q 50), .inl (cy 1, 16, .inl u0)), (b1, .inl (cy 1, 8, .inl u1))] H → va_D A [(o, .inr (12, mo q z)), ((q 50), .inl (cy 1, 16, .inl u0)), (b1, .inl (cy 1, 8, .inl u1))] → va_S A s.heap H locs → lv_has ls 9 [(0, .ref o), (1, .ref b1), (6, .int x6)] → W p l e rm_M_times_e21e31 s m args below meth c H locs 0 0 (MQ below (q_M_times_e21e31 D cy A o q b1 z res) args s 0 0 A) (F0 m 77 ls [.long y0, .long y1, .long y2])
def I_M_times_e21e31_12 (p : Program) (l : Launch) (e : Env) (s : State) (m : MethodId) (args : Array Value) (below : List Frame) (meth : Method) (c : Code) (D : va_G) (cy : Nat → ClassId) (A : Nat → Prop) (ad : Nat → Nat) (o : Nat) (q : Nat → Nat) (b1 : Nat) (z : Nat → Int32) (k : Int64 → Int32 → (Nat → Int32) → (Nat → Int32) → Option ((Nat → Int32) × (Nat → Int32))) : Prop :=
  ∀ (x4 : Int64) (x6 : Int32) (u0 : Nat → Int32) (u1 : Nat → Int32) (res : (Nat → Int32) × (Nat → Int32)), k x4 x6 u0 u1 = some res → ∀ (H : Heap) (locs : List Loc) (ls : Array Slot), va_P D classes [(o, .inr (12, mo q z)), ((q 50), .inl (cy 1, 16, .inl u0)), (b1, .inl (cy 1, 8, .inl u1))] H → va_D A [(o, .inr (12, mo q z)), ((q 50), .inl (cy 1, 16, .inl u0)), (b1, .inl (cy 1, 8, .inl u1))] → va_S A s.heap H locs → lv_has ls 9 [(0, .ref o), (1, .ref b1), (4, .long x4), (6, .int x6)] → W p l e rm_M_times_e21e31 s m args below meth c H locs 0 0 (MQ below (q_M_times_e21e31 D cy A o q b1 z res) args s 0 0 A) (F0 m 12 ls [])
def I_M_times_e21e31_e (p : Program) (l : Launch) (e : Env) (s : State) (m : MethodId) (args : Array Value) (below : List Frame) (meth : Method) (c : Code) (D : va_G) (cy : Nat → ClassId) (A : Nat → Prop) (ad : Nat → Nat) (o : Nat) (q : Nat → Nat) (b1 : Nat) (z : Nat → Int32) (k : (Nat → Int32) → (Nat → Int32) → Option ((Nat → Int32) × (Nat → Int32))) : Prop :=
  ∀ (u0 : Nat → Int32) (u1 : Nat → Int32) (res : (Nat → Int32) × (Nat → Int32)), k u0 u1 = some res → ∀ (H : Heap) (locs : List Loc) (ls : Array Slot), va_P D classes [(o, .inr (12, mo q z)), ((q 50), .inl (cy 1, 16, .inl u0)), (b1, .inl (cy 1, 8, .inl u1))] H → va_D A [(o, .inr (12, mo q z)), ((q 50), .inl (cy 1, 16, .inl u0)), (b1, .inl (cy 1, 8, .inl u1))] → va_S A s.heap H locs → lv_has ls 9 [(0, .ref o), (1, .ref b1), (2, .ref b1), (3, .ref b1)] → W p l e rm_M_times_e21e31 s m args below meth c H locs 0 0 (MQ below (q_M_times_e21e31 D cy A o q b1 z res) args s 0 0 A) (F0 m 0 ls [])
set_option maxHeartbeats 8000000 in
set_option maxRecDepth 100000 in
theorem wb_M_times_e21e31_175 {p : Program} {l : Launch} {e : Env} {s : State} {m : MethodId} {args : Array Value} {below : List Frame} {meth : Method} {c : Code} {D : va_G} {cy : Nat → ClassId} {A : Nat → Prop} {ad : Nat → Nat} {o : Nat} {q : Nat → Nat} {b1 : Nat} {z : Nat → Int32} {fu : Nat} {k_118 : Int64 → (Nat → Int32) → (Nat → Int32) → Option ((Nat → Int32) × (Nat → Int32))} {k_131 : Int64 → Int64 → Int32 → (Nat → Int32) → (Nat → Int32) → Option ((Nat → Int32) × (Nat → Int32))} (F : Fx p s m args meth c b_M_times 9 "CoinKeeperModel" "times" none D cy ad A) (hk_118 : I_M_times_e21e31_118 p l e s m args below meth c D cy A ad o q b1 z k_118) (hk_131 : I_M_times_e21e31_131 p l e s m args below meth c D cy A ad o q b1 z k_131) : I_M_times_e21e31_175 p l e s m args below meth c D cy A ad o q b1 z (xb_M_times_e21e31_175 fu z k_118 k_131) := by
  obtain ⟨hx, hb, hr, hml, hown, hts, hlocks, hK, hA, hSt, hnm, hex⟩ := id F
  intro x6 x8 y0 y1 y2 u0 u1 res hf H locs ls hP hD hS hl
  unfold xb_M_times_e21e31_175 at hf
  refine lv_ladd hx hb d_M_times_175 ?_
  refine lv_ladd hx hb d_M_times_176 ?_
  refine lv_topl (fun v1 ev => ?_)
  have hf := bn ev hf
  clear ev
  refine lv_lstore (lv' := [(4, .long v1), (1, .ref b1), (6, .long x6), (8, .int x8)]) hx hb d_M_times_177 hl (by decide) rfl (fun ls hl => ?_)
  refine lv_aload_n hx hb d_M_times_179 rfl (lv_at hl 1 rfl) ?_
  refine lv_iload hx hb d_M_times_180 (lv_at hl 3 rfl) ?_
  refine lv_lload hx hb d_M_times_182 (lv_at hl 0 rfl) ?_
  refine lv_l2i hx hb d_M_times_184 rfl ?_
  refine lv_topi (fun v2 ev => ?_)
  have hf := bn ev hf
  clear ev
  obtain ⟨hg, hf⟩ := gdp hf
  refine va_iast hx hb hK hP hD hS 2 1 rfl rfl (inb_in hg) d_M_times_185 (fun H locs hP hD hS => ?_)
  obtain ⟨f3, ev, hf⟩ := bne hf
  have hP : va_P D classes [(o, .inr (12, mo q z)), ((q 50), .inl (cy 1, 16, .inl u0)), (b1, .inl (cy 1, 8, .inl f3))] H := by rw [ev]; exact hP
  have hD : va_D A [(o, .inr (12, mo q z)), ((q 50), .inl (cy 1, 16, .inl u0)), (b1, .inl (cy 1, 8, .inl f3))] := by rw [ev]; exact hD
  clear ev
  refine lv_lload hx hb d_M_times_186 (lv_at hl 0 rfl) ?_
  refine lv_bipush (v := 32) hx hb d_M_times_188 (by decide) ?_
  refine lv_lushr hx hb d_M_times_190 rfl ?_
  refine lv_topl (fun v4 ev => ?_)
  have hf := bn ev hf
  clear ev
  refine lv_lstore (lv' := [(4, .long v4), (1, .ref b1), (6, .long x6), (8, .int x8)]) hx hb d_M_times_191 hl (by decide) rfl (fun ls hl => ?_)
  obtain ⟨v5, ev, hf⟩ := bne hf
  refine lv_iinc (v := v5) (lv' := [(8, .int v5), (4, .long v4), (1, .ref b1), (6, .long x6)]) hx hb d_M_times_193 hl (k := 3) rfl (by rw [ev]; rfl) (by decide) rfl (fun ls hl => ?_)
  clear ev
  refine lv_goto (tgt := 131) hx hb d_M_times_196 (by decide) ?_
  exact hk_131 _ _ _ _ _ _ hf _ _ _ hP hD hS (lv_sub hl [2, 1, 3, 0] rfl)
set_option maxHeartbeats 8000000 in
set_option maxRecDepth 100000 in
theorem wb_M_times_e21e31_131 {p : Program} {l : Launch} {e : Env} {s : State} {m : MethodId} {args : Array Value} {below : List Frame} {meth : Method} {c : Code} {D : va_G} {cy : Nat → ClassId} {A : Nat → Prop} {ad : Nat → Nat} {o : Nat} {q : Nat → Nat} {b1 : Nat} {z : Nat → Int32} {fu : Nat} {k_118 : Int64 → (Nat → Int32) → (Nat → Int32) → Option ((Nat → Int32) × (Nat → Int32))} {k_131 : Int64 → Int64 → Int32 → (Nat → Int32) → (Nat → Int32) → Option ((Nat → Int32) × (Nat → Int32))} (F : Fx p s m args meth c b_M_times 9 "CoinKeeperModel" "times" none D cy ad A) (hk_118 : I_M_times_e21e31_118 p l e s m args below meth c D cy A ad o q b1 z k_118) (hk_131 : I_M_times_e21e31_131 p l e s m args below meth c D cy A ad o q b1 z k_131) : I_M_times_e21e31_131 p l e s m args below meth c D cy A ad o q b1 z (xb_M_times_e21e31_131 fu z k_118 k_131) := by
  obtain ⟨hx, hb, hr, hml, hown, hts, hlocks, hK, hA, hSt, hnm, hex⟩ := id F
  intro x4 x6 x8 u0 u1 res hf H locs ls hP hD hS hl
  unfold xb_M_times_e21e31_131 at hf
  refine lv_iload hx hb d_M_times_131 (lv_at hl 3 rfl) ?_
  refine lv_bipush (v := 8) hx hb d_M_times_133 (by decide) ?_
  refine lv_icmp_ge (tgt := 199) hx hb d_M_times_135 (by decide) (fun cx => ?_) (fun cx => ?_)
  · have hf := ifp cx hf
    refine lv_lload hx hb d_M_times_199 (lv_at hl 1 rfl) ?_
    refine lv_lstore (lv' := [(6, .long x4), (1, .ref b1), (4, .long x4), (8, .int x8)]) hx hb d_M_times_201 hl (by decide) rfl (fun ls hl => ?_)
    refine lv_goto (tgt := 118) hx hb d_M_times_203 (by decide) ?_
    exact hk_118 _ _ _ _ hf _ _ _ hP hD hS (lv_sub hl [1, 0] rfl)
  · have hf := ifn cx hf
    refine lv_lload hx hb d_M_times_138 (lv_at hl 1 rfl) ?_
    refine lv_aload_n hx hb d_M_times_140 rfl (lv_at hl 0 rfl) ?_
    refine lv_iload hx hb d_M_times_141 (lv_at hl 3 rfl) ?_
    obtain ⟨hg, hf⟩ := gdp hf
    refine va_iald hx hb hK hP 2 1 rfl rfl (inb_in hg) d_M_times_143 ?_
    refine lv_topi (fun v1 ev => ?_)
    have hf := bn ev hf
    clear ev
    refine lv_i2l hx hb d_M_times_144 rfl ?_
    refine lv_topl (fun v2 ev => ?_)
    have hf := bn ev hf
    clear ev
    refine lv_ldc2 (v := 4294967295) hx hb hown (hts _ gw_1390) d_M_times_145 ?_
    refine lv_land hx hb d_M_times_148 ?_
    refine lv_topl (fun v3 ev => ?_)
    have hf := bn ev hf
    clear ev
    refine lv_iload hx hb d_M_times_149 (lv_at hl 3 rfl) ?_
    refine lv_if_ne (tgt := 163) hx hb d_M_times_151 (by decide) (fun cx => ?_) (fun cx => ?_)
    · have hf := ifn cx hf
      refine lv_iload hx hb d_M_times_163 (lv_at hl 3 rfl) ?_
      refine lv_iconst (v := 1) hx hb d_M_times_165 (by decide) ?_
      refine lv_icmp_ne (tgt := 174) hx hb d_M_times_166 (by decide) (fun cx => ?_) (fun cx => ?_)
      · have hf := ifn cx hf
        refine lv_lconst (v := 0) hx hb d_M_times_174 (by decide) ?_
        exact wb_M_times_e21e31_175 (fu := fu) F hk_118 hk_131 _ _ _ _ _ _ _ _ hf _ _ _ hP hD hS (lv_sub hl [0, 2, 3] rfl)
      · have hf := ifp cx hf
        refine lv_lload hx hb d_M_times_169 (lv_at hl 2 rfl) ?_
        refine lv_goto (tgt := 175) hx hb d_M_times_171 (by decide) ?_
        exact wb_M_times_e21e31_175 (fu := fu) F hk_118 hk_131 _ _ _ _ _ _ _ _ hf _ _ _ hP hD hS (lv_sub hl [0, 2, 3] rfl)
    · have hf := ifp cx hf
      refine lv_lload hx hb d_M_times_154 (lv_at hl 2 rfl) ?_
      refine lv_ldc2 (v := 977) hx hb hown (hts _ gw_1984) d_M_times_156 ?_
      refine lv_lmul hx hb d_M_times_159 ?_
      refine lv_goto (tgt := 175) hx hb d_M_times_160 (by decide) ?_
      exact wb_M_times_e21e31_175 (fu := fu) F hk_118 hk_131 _ _ _ _ _ _ _ _ hf _ _ _ hP hD hS (lv_sub hl [0, 2, 3] rfl)
theorem w_M_times_e21e31_131 {p : Program} {l : Launch} {e : Env} {s : State} {m : MethodId} {args : Array Value} {below : List Frame} {meth : Method} {c : Code} {D : va_G} {cy : Nat → ClassId} {A : Nat → Prop} {ad : Nat → Nat} {o : Nat} {q : Nat → Nat} {b1 : Nat} {z : Nat → Int32} {fu : Nat} {k_118 : Int64 → (Nat → Int32) → (Nat → Int32) → Option ((Nat → Int32) × (Nat → Int32))} (F : Fx p s m args meth c b_M_times 9 "CoinKeeperModel" "times" none D cy ad A) (hk_118 : I_M_times_e21e31_118 p l e s m args below meth c D cy A ad o q b1 z k_118) : ∀ n : Nat, I_M_times_e21e31_131 p l e s m args below meth c D cy A ad o q b1 z (x_M_times_e21e31_131 fu z k_118 n)
  | 0 => fun _ _ _ _ _ _ hf => nomatch (show (none : Option ((Nat → Int32) × (Nat → Int32))) = some _ from hf)
  | n + 1 => wb_M_times_e21e31_131 F hk_118 (w_M_times_e21e31_131 F hk_118 n)
set_option maxHeartbeats 8000000 in
set_option maxRecDepth 100000 in
theorem wb_M_times_e21e31_118 {p : Program} {l : Launch} {e : Env} {s : State} {m : MethodId} {args : Array Value} {below : List Frame} {meth : Method} {c : Code} {D : va_G} {cy : Nat → ClassId} {A : Nat → Prop} {ad : Nat → Nat} {o : Nat} {q : Nat → Nat} {b1 : Nat} {z : Nat → Int32} {fu : Nat} {k_118 : Int64 → (Nat → Int32) → (Nat → Int32) → Option ((Nat → Int32) × (Nat → Int32))} (F : Fx p s m args meth c b_M_times 9 "CoinKeeperModel" "times" none D cy ad A) (hk_118 : I_M_times_e21e31_118 p l e s m args below meth c D cy A ad o q b1 z k_118) : I_M_times_e21e31_118 p l e s m args below meth c D cy A ad o q b1 z (xb_M_times_e21e31_118 fu z k_118) := by
  obtain ⟨hx, hb, hr, hml, hown, hts, hlocks, hK, hA, hSt, hnm, hex⟩ := id F
  intro x6 u0 u1 res hf H locs ls hP hD hS hl
  unfold xb_M_times_e21e31_118 at hf
  refine lv_lload hx hb d_M_times_118 (lv_at hl 1 rfl) ?_
  refine lv_lconst (v := 0) hx hb d_M_times_120 (by decide) ?_
  refine W.lcmp hx hb d_M_times_121 ?_
  refine lv_if_le (tgt := 206) hx hb d_M_times_122 (by decide) (fun cx => ?_) (fun cx => ?_)
  · have hf := ifp cx hf
    refine lv_aload_n hx hb d_M_times_206 rfl (lv_at hl 0 rfl) ?_
    refine va_gets hx hb (hSt.1 22 _ rfl).1 hS hown (hts _ gw_1974) (fun _ h9 => h9) d_M_times_207 ?_
    obtain ⟨v1, hc, hf⟩ := bdp1 hf
    refine q_ai (wr := [(o, .inr (12, mo q z)), ((q 50), .inl (cy 1, 16, .inl u0))]) (va_runS (As := [.ref b1, .ref (ad 22)]) (rest := []) ⟨hx, hb, hml, hown, hts⟩ (c_M_compare_s1x22 l D cy ad fu b1 u1 _ hc H.size) ⟨q_cB hts gw_1404 gw_18 gw_1402 hdm_16 ⟨by decide, by decide⟩, hts _ gw_1403⟩ (q_pre (hP.sub [2] rfl) (hD.sub [2] (by decide) rfl) hK hSt hS (va_free hD hS hA [2] rfl) _) rfl rfl hl.1 rfl (lv_room (Nat.le_of_ble_eq_true rfl)) d_M_times_210 ⟨Nat.le_of_ble_eq_true rfl, Nat.le_of_ble_eq_true rfl⟩) hP hD hS hA [2] [0, 1] rfl rfl (by decide) (by decide) (fun H locs hP hD hS => ?_)
    clear hc
    have hP : va_P D classes [(o, .inr (12, mo q z)), ((q 50), .inl (cy 1, 16, .inl u0)), (b1, .inl (cy 1, 8, .inl u1))] H := hP
    have hD : va_D A [(o, .inr (12, mo q z)), ((q 50), .inl (cy 1, 16, .inl u0)), (b1, .inl (cy 1, 8, .inl u1))] := hD
    refine lv_if_lt (tgt := 225) hx hb d_M_times_213 (by decide) (fun cx => ?_) (fun cx => ?_)
    · have hf := ifp cx hf
      obtain rfl := Option.some.inj hf
      exact q_rv hx hb hr hlocks hK hP hD hS d_M_times_225
    · have hf := ifn cx hf
      refine lv_aload_n hx hb d_M_times_216 rfl (lv_at hl 0 rfl) ?_
      refine lv_aload_n hx hb d_M_times_217 rfl (lv_at hl 0 rfl) ?_
      refine va_gets hx hb (hSt.1 22 _ rfl).1 hS hown (hts _ gw_1974) (fun _ h9 => h9) d_M_times_218 ?_
      obtain ⟨v2, f3, hc, hf⟩ := bdp2 hf
      refine q_ai (wr := [(o, .inr (12, mo q z)), ((q 50), .inl (cy 1, 16, .inl u0))]) (va_runS (As := [.ref b1, .ref b1, .ref (ad 22)]) (rest := []) ⟨hx, hb, hml, hown, hts⟩ (c_M_sub_e10s2x22 l D cy ad fu b1 u1 _ hc H.size) ⟨q_cB hts gw_1414 gw_18 gw_1412 hdm_17 ⟨by decide, by decide⟩, hts _ gw_1413⟩ (q_pre (hP.sub [2] rfl) (hD.sub [2] (by decide) rfl) hK hSt hS (va_free hD hS hA [2] rfl) _) rfl rfl hl.1 rfl (lv_room (Nat.le_of_ble_eq_true rfl)) d_M_times_221 ⟨Nat.le_of_ble_eq_true rfl, Nat.le_of_ble_eq_true rfl⟩) hP hD hS hA [2] [0, 1] rfl rfl (by decide) (by decide) (fun H locs hP hD hS => ?_)
      clear hc
      have hP : va_P D classes [(o, .inr (12, mo q z)), ((q 50), .inl (cy 1, 16, .inl u0)), (b1, .inl (cy 1, 8, .inl f3))] H := hP
      have hD : va_D A [(o, .inr (12, mo q z)), ((q 50), .inl (cy 1, 16, .inl u0)), (b1, .inl (cy 1, 8, .inl f3))] := hD
      refine lv_pop hx hb d_M_times_224 rfl ?_
      obtain rfl := Option.some.inj hf
      exact q_rv hx hb hr hlocks hK hP hD hS d_M_times_225
  · have hf := ifn cx hf
    refine lv_lconst (v := 0) hx hb d_M_times_125 (by decide) ?_
    refine lv_lstore (lv' := [(4, .long (0 : Int64)), (1, .ref b1), (6, .long x6)]) hx hb d_M_times_126 hl (by decide) rfl (fun ls hl => ?_)
    refine lv_iconst (v := 0) hx hb d_M_times_128 (by decide) ?_
    refine lv_istore (lv' := [(8, .int (0 : Int32)), (4, .long (0 : Int64)), (1, .ref b1), (6, .long x6)]) hx hb d_M_times_129 hl (by decide) rfl (fun ls hl => ?_)
    exact w_M_times_e21e31_131 F hk_118 fu _ _ _ _ _ _ hf _ _ _ hP hD hS (lv_sub hl [2, 1, 3, 0] rfl)
theorem w_M_times_e21e31_118 {p : Program} {l : Launch} {e : Env} {s : State} {m : MethodId} {args : Array Value} {below : List Frame} {meth : Method} {c : Code} {D : va_G} {cy : Nat → ClassId} {A : Nat → Prop} {ad : Nat → Nat} {o : Nat} {q : Nat → Nat} {b1 : Nat} {z : Nat → Int32} {fu : Nat} (F : Fx p s m args meth c b_M_times 9 "CoinKeeperModel" "times" none D cy ad A) : ∀ n : Nat, I_M_times_e21e31_118 p l e s m args below meth c D cy A ad o q b1 z (x_M_times_e21e31_118 fu z n)
  | 0 => fun _ _ _ _ hf => nomatch (show (none : Option ((Nat → Int32) × (Nat → Int32))) = some _ from hf)
  | n + 1 => wb_M_times_e21e31_118 F (w_M_times_e21e31_118 F n)
set_option maxHeartbeats 8000000 in
set_option maxRecDepth 100000 in
theorem wb_M_times_e21e31_77 {p : Program} {l : Launch} {e : Env} {s : State} {m : MethodId} {args : Array Value} {below : List Frame} {meth : Method} {c : Code} {D : va_G} {cy : Nat → ClassId} {A : Nat → Prop} {ad : Nat → Nat} {o : Nat} {q : Nat → Nat} {b1 : Nat} {z : Nat → Int32} {fu : Nat} {k_12 : Int64 → Int32 → (Nat → Int32) → (Nat → Int32) → Option ((Nat → Int32) × (Nat → Int32))} (F : Fx p s m args meth c b_M_times 9 "CoinKeeperModel" "times" none D cy ad A) (hk_12 : I_M_times_e21e31_12 p l e s m args below meth c D cy A ad o q b1 z k_12) : I_M_times_e21e31_77 p l e s m args below meth c D cy A ad o q b1 z (xb_M_times_e21e31_77 fu z k_12) := by
  obtain ⟨hx, hb, hr, hml, hown, hts, hlocks, hK, hA, hSt, hnm, hex⟩ := id F
  intro x6 y0 y1 y2 u0 u1 res hf H locs ls hP hD hS hl
  unfold xb_M_times_e21e31_77 at hf
  refine lv_ladd hx hb d_M_times_77 ?_
  refine lv_ladd hx hb d_M_times_78 ?_
  refine lv_topl (fun v1 ev => ?_)
  have hf := bn ev hf
  clear ev
  refine lv_lstore (lv' := [(4, .long v1), (0, .ref o), (1, .ref b1), (6, .int x6)]) hx hb d_M_times_79 hl (by decide) rfl (fun ls hl => ?_)
  refine lv_aload_n hx hb d_M_times_81 rfl (lv_at hl 2 rfl) ?_
  refine lv_iload hx hb d_M_times_82 (lv_at hl 3 rfl) ?_
  refine lv_lload hx hb d_M_times_84 (lv_at hl 0 rfl) ?_
  refine lv_l2i hx hb d_M_times_86 rfl ?_
  refine lv_topi (fun v2 ev => ?_)
  have hf := bn ev hf
  clear ev
  obtain ⟨hg, hf⟩ := gdp hf
  refine va_iast hx hb hK hP hD hS 2 1 rfl rfl (inb_in hg) d_M_times_87 (fun H locs hP hD hS => ?_)
  obtain ⟨f3, ev, hf⟩ := bne hf
  have hP : va_P D classes [(o, .inr (12, mo q z)), ((q 50), .inl (cy 1, 16, .inl u0)), (b1, .inl (cy 1, 8, .inl f3))] H := by rw [ev]; exact hP
  have hD : va_D A [(o, .inr (12, mo q z)), ((q 50), .inl (cy 1, 16, .inl u0)), (b1, .inl (cy 1, 8, .inl f3))] := by rw [ev]; exact hD
  clear ev
  refine lv_lload hx hb d_M_times_88 (lv_at hl 0 rfl) ?_
  refine lv_bipush (v := 32) hx hb d_M_times_90 (by decide) ?_
  refine lv_lushr hx hb d_M_times_92 rfl ?_
  refine lv_topl (fun v4 ev => ?_)
  have hf := bn ev hf
  clear ev
  refine lv_lstore (lv' := [(4, .long v4), (0, .ref o), (1, .ref b1), (6, .int x6)]) hx hb d_M_times_93 hl (by decide) rfl (fun ls hl => ?_)
  obtain ⟨v5, ev, hf⟩ := bne hf
  refine lv_iinc (v := v5) (lv' := [(6, .int v5), (4, .long v4), (0, .ref o), (1, .ref b1)]) hx hb d_M_times_95 hl (k := 3) rfl (by rw [ev]; rfl) (by decide) rfl (fun ls hl => ?_)
  clear ev
  refine lv_goto (tgt := 12) hx hb d_M_times_98 (by decide) ?_
  exact hk_12 _ _ _ _ _ hf _ _ _ hP hD hS (lv_sub hl [2, 3, 1, 0] rfl)
set_option maxHeartbeats 8000000 in
set_option maxRecDepth 100000 in
theorem wb_M_times_e21e31_12 {p : Program} {l : Launch} {e : Env} {s : State} {m : MethodId} {args : Array Value} {below : List Frame} {meth : Method} {c : Code} {D : va_G} {cy : Nat → ClassId} {A : Nat → Prop} {ad : Nat → Nat} {o : Nat} {q : Nat → Nat} {b1 : Nat} {z : Nat → Int32} {fu : Nat} {k_12 : Int64 → Int32 → (Nat → Int32) → (Nat → Int32) → Option ((Nat → Int32) × (Nat → Int32))} (F : Fx p s m args meth c b_M_times 9 "CoinKeeperModel" "times" none D cy ad A) (hk_12 : I_M_times_e21e31_12 p l e s m args below meth c D cy A ad o q b1 z k_12) : I_M_times_e21e31_12 p l e s m args below meth c D cy A ad o q b1 z (xb_M_times_e21e31_12 fu z k_12) := by
  obtain ⟨hx, hb, hr, hml, hown, hts, hlocks, hK, hA, hSt, hnm, hex⟩ := id F
  intro x4 x6 u0 u1 res hf H locs ls hP hD hS hl
  unfold xb_M_times_e21e31_12 at hf
  refine lv_iload hx hb d_M_times_12 (lv_at hl 3 rfl) ?_
  refine lv_bipush (v := 8) hx hb d_M_times_14 (by decide) ?_
  refine lv_icmp_ge (tgt := 101) hx hb d_M_times_16 (by decide) (fun cx => ?_) (fun cx => ?_)
  · have hf := ifp cx hf
    refine lv_lload hx hb d_M_times_101 (lv_at hl 2 rfl) ?_
    refine lv_aload_n hx hb d_M_times_103 rfl (lv_at hl 0 rfl) ?_
    refine va_get (D := D) (ci := 12) (v := .ref (q 50)) (C := "CoinKeeperModel") (T := F_12) (N := 98) hx hb hts i_12 hown hK hP 0 rfl rfl 58 (by decide) (hts _ gw_1477) (fun _ h9 => h9) rfl d_M_times_104 ?_
    refine lv_bipush (v := 15) hx hb d_M_times_107 (by decide) ?_
    refine va_iald hx hb hK hP 1 1 rfl rfl (inb_in (by decide)) d_M_times_109 ?_
    refine lv_topi (fun v1 ev => ?_)
    have hf := bn ev hf
    clear ev
    refine lv_i2l hx hb d_M_times_110 rfl ?_
    refine lv_topl (fun v2 ev => ?_)
    have hf := bn ev hf
    clear ev
    refine lv_ldc2 (v := 4294967295) hx hb hown (hts _ gw_1390) d_M_times_111 ?_
    refine lv_land hx hb d_M_times_114 ?_
    refine lv_ladd hx hb d_M_times_115 ?_
    refine lv_topl (fun v3 ev => ?_)
    have hf := bn ev hf
    clear ev
    refine lv_lstore (lv' := [(6, .long v3), (0, .ref o), (1, .ref b1), (4, .long x4)]) hx hb d_M_times_116 hl (by decide) rfl (fun ls hl => ?_)
    exact w_M_times_e21e31_118 F fu _ _ _ _ hf _ _ _ hP hD hS (lv_sub hl [2, 0] rfl)
  · have hf := ifn cx hf
    refine lv_lload hx hb d_M_times_19 (lv_at hl 2 rfl) ?_
    refine lv_aload_n hx hb d_M_times_21 rfl (lv_at hl 0 rfl) ?_
    refine va_get (D := D) (ci := 12) (v := .ref (q 50)) (C := "CoinKeeperModel") (T := F_12) (N := 98) hx hb hts i_12 hown hK hP 0 rfl rfl 58 (by decide) (hts _ gw_1477) (fun _ h9 => h9) rfl d_M_times_22 ?_
    refine lv_iload hx hb d_M_times_25 (lv_at hl 3 rfl) ?_
    obtain ⟨hg, hf⟩ := gdp hf
    refine va_iald hx hb hK hP 1 1 rfl rfl (inb_in hg) d_M_times_27 ?_
    refine lv_topi (fun v4 ev => ?_)
    have hf := bn ev hf
    clear ev
    refine lv_i2l hx hb d_M_times_28 rfl ?_
    refine lv_topl (fun v5 ev => ?_)
    have hf := bn ev hf
    clear ev
    refine lv_ldc2 (v := 4294967295) hx hb hown (hts _ gw_1390) d_M_times_29 ?_
    refine lv_land hx hb d_M_times_32 ?_
    refine lv_topl (fun v6 ev => ?_)
    have hf := bn ev hf
    clear ev
    refine lv_aload_n hx hb d_M_times_33 rfl (lv_at hl 0 rfl) ?_
    refine va_get (D := D) (ci := 12) (v := .ref (q 50)) (C := "CoinKeeperModel") (T := F_12) (N := 98) hx hb hts i_12 hown hK hP 0 rfl rfl 58 (by decide) (hts _ gw_1477) (fun _ h9 => h9) rfl d_M_times_34 ?_
    refine lv_bipush (v := 8) hx hb d_M_times_37 (by decide) ?_
    refine lv_iload hx hb d_M_times_39 (lv_at hl 3 rfl) ?_
    refine lv_iadd hx hb d_M_times_41 ?_
    refine lv_topi (fun v7 ev => ?_)
    have hf := bn ev hf
    clear ev
    obtain ⟨hg, hf⟩ := gdp hf
    refine va_iald hx hb hK hP 1 1 rfl rfl (inb_in hg) d_M_times_42 ?_
    refine lv_topi (fun v8 ev => ?_)
    have hf := bn ev hf
    clear ev
    refine lv_i2l hx hb d_M_times_43 rfl ?_
    refine lv_topl (fun v9 ev => ?_)
    have hf := bn ev hf
    clear ev
    refine lv_ldc2 (v := 4294967295) hx hb hown (hts _ gw_1390) d_M_times_44 ?_
    refine lv_land hx hb d_M_times_47 ?_
    refine lv_topl (fun v10 ev => ?_)
    have hf := bn ev hf
    clear ev
    refine lv_ldc2 (v := 977) hx hb hown (hts _ gw_1984) d_M_times_48 ?_
    refine lv_lmul hx hb d_M_times_51 ?_
    refine lv_ladd hx hb d_M_times_52 ?_
    refine lv_topl (fun v11 ev => ?_)
    have hf := bn ev hf
    clear ev
    refine lv_iload hx hb d_M_times_53 (lv_at hl 3 rfl) ?_
    refine lv_if_le (tgt := 76) hx hb d_M_times_55 (by decide) (fun cx => ?_) (fun cx => ?_)
    · have hf := ifp cx hf
      refine lv_lconst (v := 0) hx hb d_M_times_76 (by decide) ?_
      exact wb_M_times_e21e31_77 (fu := fu) F hk_12 _ _ _ _ _ _ _ hf _ _ _ hP hD hS (lv_sub hl [0, 1, 3] rfl)
    · have hf := ifn cx hf
      refine lv_aload_n hx hb d_M_times_58 rfl (lv_at hl 0 rfl) ?_
      refine va_get (D := D) (ci := 12) (v := .ref (q 50)) (C := "CoinKeeperModel") (T := F_12) (N := 98) hx hb hts i_12 hown hK hP 0 rfl rfl 58 (by decide) (hts _ gw_1477) (fun _ h9 => h9) rfl d_M_times_59 ?_
      refine lv_bipush (v := 7) hx hb d_M_times_62 (by decide) ?_
      refine lv_iload hx hb d_M_times_64 (lv_at hl 3 rfl) ?_
      refine lv_iadd hx hb d_M_times_66 ?_
      refine lv_topi (fun v12 ev => ?_)
      have hf := bn ev hf
      clear ev
      obtain ⟨hg, hf⟩ := gdp hf
      refine va_iald hx hb hK hP 1 1 rfl rfl (inb_in hg) d_M_times_67 ?_
      refine lv_topi (fun v13 ev => ?_)
      have hf := bn ev hf
      clear ev
      refine lv_i2l hx hb d_M_times_68 rfl ?_
      refine lv_topl (fun v14 ev => ?_)
      have hf := bn ev hf
      clear ev
      refine lv_ldc2 (v := 4294967295) hx hb hown (hts _ gw_1390) d_M_times_69 ?_
      refine lv_land hx hb d_M_times_72 ?_
      refine lv_goto (tgt := 77) hx hb d_M_times_73 (by decide) ?_
      exact wb_M_times_e21e31_77 (fu := fu) F hk_12 _ _ _ _ _ _ _ hf _ _ _ hP hD hS (lv_sub hl [0, 1, 3] rfl)
theorem w_M_times_e21e31_12 {p : Program} {l : Launch} {e : Env} {s : State} {m : MethodId} {args : Array Value} {below : List Frame} {meth : Method} {c : Code} {D : va_G} {cy : Nat → ClassId} {A : Nat → Prop} {ad : Nat → Nat} {o : Nat} {q : Nat → Nat} {b1 : Nat} {z : Nat → Int32} {fu : Nat} (F : Fx p s m args meth c b_M_times 9 "CoinKeeperModel" "times" none D cy ad A) : ∀ n : Nat, I_M_times_e21e31_12 p l e s m args below meth c D cy A ad o q b1 z (x_M_times_e21e31_12 fu z n)
  | 0 => fun _ _ _ _ _ hf => nomatch (show (none : Option ((Nat → Int32) × (Nat → Int32))) = some _ from hf)
  | n + 1 => wb_M_times_e21e31_12 F (w_M_times_e21e31_12 F n)
set_option maxHeartbeats 8000000 in
set_option maxRecDepth 100000 in
theorem we_M_times_e21e31 {p : Program} {l : Launch} {e : Env} {s : State} {m : MethodId} {args : Array Value} {below : List Frame} {meth : Method} {c : Code} {D : va_G} {cy : Nat → ClassId} {A : Nat → Prop} {ad : Nat → Nat} {o : Nat} {q : Nat → Nat} {b1 : Nat} {z : Nat → Int32} {fu : Nat} (F : Fx p s m args meth c b_M_times 9 "CoinKeeperModel" "times" none D cy ad A) : I_M_times_e21e31_e p l e s m args below meth c D cy A ad o q b1 z (x_M_times_e21e31 fu z) := by
  obtain ⟨hx, hb, hr, hml, hown, hts, hlocks, hK, hA, hSt, hnm, hex⟩ := id F
  intro u0 u1 res hf H locs ls hP hD hS hl
  unfold x_M_times_e21e31 at hf
  refine lv_aload_n hx hb d_M_times_0 rfl (lv_at hl 0 rfl) ?_
  refine lv_aload_n hx hb d_M_times_1 rfl (lv_at hl 2 rfl) ?_
  refine lv_aload_n hx hb d_M_times_2 rfl (lv_at hl 3 rfl) ?_
  obtain ⟨f1, hc, hf⟩ := bdp1 hf
  refine q_av (wr := []) (va_runV (C := "CoinKeeperModel") (As := [.ref b1, .ref b1]) (rest := []) ⟨hx, hb, hml, hown, hts⟩ (c_M_multiply_e21 l D cy ad fu o q b1 z u1 u0 _ hc H.size) ⟨q_cB hts gw_1983 gw_18 gw_1980 hdm_18 ⟨by decide, by decide⟩, hts _ gw_1982, hts _ gs_113⟩ (q_preV (q_pre (hP.sub [0, 1, 2] rfl) (hD.sub [0, 1, 2] (by decide) rfl) hK hSt hS (va_free hD hS hA [0, 1, 2] rfl) _) (va_recv hK (hP.sub [0, 1, 2] rfl) (ci := 12) (q0 := 0) rfl rfl)) rfl rfl hl.1 rfl (lv_room (Nat.le_of_ble_eq_true rfl)) d_M_times_3 ⟨Nat.le_of_ble_eq_true rfl, Nat.le_of_ble_eq_true rfl⟩) hP hD hS hA [0, 1, 2] [] rfl rfl (by decide) (by decide) (fun H locs hP hD hS => ?_)
  clear hc
  have hP : va_P D classes [(o, .inr (12, mo q z)), ((q 50), .inl (cy 1, 16, .inl f1)), (b1, .inl (cy 1, 8, .inl u1))] H := hP
  have hD : va_D A [(o, .inr (12, mo q z)), ((q 50), .inl (cy 1, 16, .inl f1)), (b1, .inl (cy 1, 8, .inl u1))] := hD
  refine lv_lconst (v := 0) hx hb d_M_times_6 (by decide) ?_
  refine lv_lstore (lv' := [(4, .long (0 : Int64)), (0, .ref o), (1, .ref b1), (2, .ref b1), (3, .ref b1)]) hx hb d_M_times_7 hl (by decide) rfl (fun ls hl => ?_)
  refine lv_iconst (v := 0) hx hb d_M_times_9 (by decide) ?_
  refine lv_istore (lv' := [(6, .int (0 : Int32)), (4, .long (0 : Int64)), (0, .ref o), (1, .ref b1), (2, .ref b1), (3, .ref b1)]) hx hb d_M_times_10 hl (by decide) rfl (fun ls hl => ?_)
  exact w_M_times_e21e31_12 F fu _ _ _ _ _ hf _ _ _ hP hD hS (lv_sub hl [2, 3, 1, 0] rfl)
theorem c_M_times_e21e31 (l : Launch) (D : va_G) (cy : Nat → ClassId) (ad : Nat → Nat) (fu : Nat) (o : Nat) (q : Nat → Nat) (b1 : Nat) (z : Nat → Int32) (u0 : Nat → Int32) (u1 : Nat → Int32) (res : (Nat → Int32) × (Nat → Int32)) (hf : x_M_times_e21e31 fu z u0 u1 = some res) (sz : Nat) : Met l ({ cls := "CoinKeeperModel", name := "times", desc := "([I[I[I)V" } : Jvm.MethodName) (.code ({ cls := "CoinKeeperModel", name := "times", desc := "([I[I[I)V" } : Jvm.MethodName) b_M_times 9 none :: gw) rm_M_times_e21e31 (va_Pc [.ref o, .ref b1, .ref b1, .ref b1] (Pr D cy ad [(o, .inr (12, mo q z)), ((q 50), .inl (cy 1, 16, .inl u0)), (b1, .inl (cy 1, 8, .inl u1))] sz)) (q_M_times_e21e31 D cy (va_A [(o, .inr (12, mo q z)), ((q 50), .inl (cy 1, 16, .inl u0)), (b1, .inl (cy 1, 8, .inl u1))] sz) o q b1 z res) 0 0 (va_A [(o, .inr (12, mo q z)), ((q 50), .inl (cy 1, 16, .inl u0)), (b1, .inl (cy 1, 8, .inl u1))] sz) :=
  q_met (Qc := fun A => q_M_times_e21e31 D cy A o q b1 z res) (by decide) rfl rfl (Nat.le_of_ble_eq_true rfl) (fun p e s m below meth c ls F hP hD hS hl => we_M_times_e21e31 (fu := fu) F u0 u1 res hf _ _ _ hP hD hS hl) sz
abbrev b_M_bit : ByteArray := prog_14_method_15_code
theorem d_M_bit_0 : decode b_M_bit 0 = .ok (.aload_n 0, 1) := by decide +kernel
theorem d_M_bit_1 : decode b_M_bit 1 = .ok (.iload_n 1, 1) := by decide +kernel
theorem d_M_bit_2 : decode b_M_bit 2 = .ok (.bipush 32, 2) := by decide +kernel
theorem d_M_bit_4 : decode b_M_bit 4 = .ok (.idiv, 1) := by decide +kernel
theorem d_M_bit_5 : decode b_M_bit 5 = .ok (.iaload, 1) := by decide +kernel
theorem d_M_bit_6 : decode b_M_bit 6 = .ok (.iload_n 1, 1) := by decide +kernel
theorem d_M_bit_7 : decode b_M_bit 7 = .ok (.bipush 32, 2) := by decide +kernel
theorem d_M_bit_9 : decode b_M_bit 9 = .ok (.irem, 1) := by decide +kernel
theorem d_M_bit_10 : decode b_M_bit 10 = .ok (.iushr, 1) := by decide +kernel
theorem d_M_bit_11 : decode b_M_bit 11 = .ok (.iconst 1, 1) := by decide +kernel
theorem d_M_bit_12 : decode b_M_bit 12 = .ok (.iand, 1) := by decide +kernel
theorem d_M_bit_13 : decode b_M_bit 13 = .ok (.ireturn, 1) := by decide +kernel
abbrev rm_M_bit : Room := { frames := 0, cells := 0, slots := 0, locals := 0 }
abbrev q_M_bit (D : va_G) (cy : Nat → ClassId) (A : Nat → Prop) (b0 : Nat) (h0 : Nat → Int32) (res : Int32) : Array Value → State → Outcome → State → Prop := va_Qi (fun r' (_ : Unit) => r' = res) (fun _ t => Po D cy A [(b0, .inl (cy 1, 8, .inl h0))] t) A
def I_M_bit_e (p : Program) (l : Launch) (e : Env) (s : State) (m : MethodId) (args : Array Value) (below : List Frame) (meth : Method) (c : Code) (D : va_G) (cy : Nat → ClassId) (A : Nat → Prop) (ad : Nat → Nat) (b0 : Nat) (h0 : Nat → Int32) (k : Int32 → Option (Int32)) : Prop :=
  ∀ (a1 : Int32) (res : Int32), k a1 = some res → ∀ (H : Heap) (locs : List Loc) (ls : Array Slot), va_P D classes [(b0, .inl (cy 1, 8, .inl h0))] H → va_D A [(b0, .inl (cy 1, 8, .inl h0))] → va_S A s.heap H locs → lv_has ls 2 [(0, .ref b0), (1, .int a1)] → W p l e rm_M_bit s m args below meth c H locs 0 0 (MQ below (q_M_bit D cy A b0 h0 res) args s 0 0 A) (F0 m 0 ls [])
set_option maxHeartbeats 8000000 in
set_option maxRecDepth 100000 in
theorem we_M_bit {p : Program} {l : Launch} {e : Env} {s : State} {m : MethodId} {args : Array Value} {below : List Frame} {meth : Method} {c : Code} {D : va_G} {cy : Nat → ClassId} {A : Nat → Prop} {ad : Nat → Nat} {b0 : Nat} {h0 : Nat → Int32} {fu : Nat} (F : Fx p s m args meth c b_M_bit 2 "CoinKeeperModel" "bit" (some .int) D cy ad A) : I_M_bit_e p l e s m args below meth c D cy A ad b0 h0 (x_M_bit fu h0) := by
  obtain ⟨hx, hb, hr, hml, hown, hts, hlocks, hK, hA, hSt, hnm, hex⟩ := id F
  intro a1 res hf H locs ls hP hD hS hl
  unfold x_M_bit at hf
  refine lv_aload_n hx hb d_M_bit_0 rfl (lv_at hl 0 rfl) ?_
  refine lv_iload_n hx hb d_M_bit_1 rfl (lv_at hl 1 rfl) ?_
  refine lv_bipush (v := 32) hx hb d_M_bit_2 (by decide) ?_
  refine lv_idiv hx hb d_M_bit_4 (by decide) ?_
  refine lv_topi (fun v1 ev => ?_)
  have hf := bn ev hf
  clear ev
  obtain ⟨hg, hf⟩ := gdp hf
  refine va_iald hx hb hK hP 0 1 rfl rfl (inb_in hg) d_M_bit_5 ?_
  refine lv_topi (fun v2 ev => ?_)
  have hf := bn ev hf
  clear ev
  refine lv_iload_n hx hb d_M_bit_6 rfl (lv_at hl 1 rfl) ?_
  refine lv_bipush (v := 32) hx hb d_M_bit_7 (by decide) ?_
  refine lv_irem hx hb d_M_bit_9 (by decide) ?_
  refine lv_iushr hx hb d_M_bit_10 rfl ?_
  refine lv_topi (fun v3 ev => ?_)
  have hf := bn ev hf
  clear ev
  refine lv_iconst (v := 1) hx hb d_M_bit_11 (by decide) ?_
  refine lv_iand hx hb d_M_bit_12 ?_
  refine lv_topi (fun v4 ev => ?_)
  have hf := bn ev hf
  clear ev
  obtain rfl := Option.some.inj hf
  exact q_ri hx hb hr hlocks hK hP hD hS d_M_bit_13
theorem c_M_bit (l : Launch) (D : va_G) (cy : Nat → ClassId) (ad : Nat → Nat) (fu : Nat) (b0 : Nat) (h0 : Nat → Int32) (a1 : Int32) (res : Int32) (hf : x_M_bit fu h0 a1 = some res) (sz : Nat) : Met l ({ cls := "CoinKeeperModel", name := "bit", desc := "([II)I" } : Jvm.MethodName) (.code ({ cls := "CoinKeeperModel", name := "bit", desc := "([II)I" } : Jvm.MethodName) b_M_bit 2 (some .int) :: gw) rm_M_bit (va_Pc [.ref b0, .int a1] (Pr D cy ad [(b0, .inl (cy 1, 8, .inl h0))] sz)) (q_M_bit D cy (va_A [(b0, .inl (cy 1, 8, .inl h0))] sz) b0 h0 res) 0 0 (va_A [(b0, .inl (cy 1, 8, .inl h0))] sz) :=
  q_met (Qc := fun A => q_M_bit D cy A b0 h0 res) (by decide) rfl rfl (Nat.le_of_ble_eq_true rfl) (fun p e s m below meth c ls F hP hD hS hl => we_M_bit (fu := fu) F a1 res hf _ _ _ hP hD hS hl) sz
