abbrev rm_M_sha_f1hash : Room := { frames := 1, cells := 0, slots := 0, locals := 26 }
abbrev q_M_sha_f1hash (D : va_G) (cy : Nat → ClassId) (A : Nat → Prop) (o : Nat) (q : Nat → Nat) (z : Nat → Int32) (res : (Nat → Int32) × (Nat → Int32) × (Nat → Int32) × (Nat → Int32)) : Array Value → State → Outcome → State → Prop := va_Qv (fun (_ : Unit) => True) (fun _ t => Po D cy A [(o, .inr (12, mo q z)), ((q 34), .inl (cy 1, 8, .inl res.1)), ((q 35), .inl (cy 1, 64, .inl res.2.1)), ((q 36), .inl (cy 0, 32, .inl res.2.2.1)), ((q 37), .inl (cy 0, 100200, .inl res.2.2.2))] t) A
def I_M_sha_f1hash_607 (p : Program) (l : Launch) (e : Env) (s : State) (m : MethodId) (args : Array Value) (below : List Frame) (meth : Method) (c : Code) (D : va_G) (cy : Nat → ClassId) (A : Nat → Prop) (ad : Nat → Nat) (o : Nat) (q : Nat → Nat) (z : Nat → Int32) (k : Int32 → Int32 → (Nat → Int32) → (Nat → Int32) → (Nat → Int32) → (Nat → Int32) → Option ((Nat → Int32) × (Nat → Int32) × (Nat → Int32) × (Nat → Int32))) : Prop :=
  ∀ (x6 : Int32) (x7 : Int32) (u0 : Nat → Int32) (u1 : Nat → Int32) (u2 : Nat → Int32) (u3 : Nat → Int32) (res : (Nat → Int32) × (Nat → Int32) × (Nat → Int32) × (Nat → Int32)), k x6 x7 u0 u1 u2 u3 = some res → ∀ (H : Heap) (locs : List Loc) (ls : Array Slot), va_P D classes [(o, .inr (12, mo q z)), ((q 34), .inl (cy 1, 8, .inl u0)), ((q 35), .inl (cy 1, 64, .inl u1)), ((q 36), .inl (cy 0, 32, .inl u2)), ((q 37), .inl (cy 0, 100200, .inl u3))] H → va_D A [(o, .inr (12, mo q z)), ((q 34), .inl (cy 1, 8, .inl u0)), ((q 35), .inl (cy 1, 64, .inl u1)), ((q 36), .inl (cy 0, 32, .inl u2)), ((q 37), .inl (cy 0, 100200, .inl u3))] → va_S A s.heap H locs → lv_has ls 18 [(0, .ref o), (6, .int x6), (7, .int x7)] → W p l e rm_M_sha_f1hash s m args below meth c H locs 0 0 (MQ below (q_M_sha_f1hash D cy A o q z res) args s 0 0 A) (F0 m 607 ls [])
def I_M_sha_f1hash_597 (p : Program) (l : Launch) (e : Env) (s : State) (m : MethodId) (args : Array Value) (below : List Frame) (meth : Method) (c : Code) (D : va_G) (cy : Nat → ClassId) (A : Nat → Prop) (ad : Nat → Nat) (o : Nat) (q : Nat → Nat) (z : Nat → Int32) (k : Int32 → (Nat → Int32) → (Nat → Int32) → (Nat → Int32) → (Nat → Int32) → Option ((Nat → Int32) × (Nat → Int32) × (Nat → Int32) × (Nat → Int32))) : Prop :=
  ∀ (x6 : Int32) (u0 : Nat → Int32) (u1 : Nat → Int32) (u2 : Nat → Int32) (u3 : Nat → Int32) (res : (Nat → Int32) × (Nat → Int32) × (Nat → Int32) × (Nat → Int32)), k x6 u0 u1 u2 u3 = some res → ∀ (H : Heap) (locs : List Loc) (ls : Array Slot), va_P D classes [(o, .inr (12, mo q z)), ((q 34), .inl (cy 1, 8, .inl u0)), ((q 35), .inl (cy 1, 64, .inl u1)), ((q 36), .inl (cy 0, 32, .inl u2)), ((q 37), .inl (cy 0, 100200, .inl u3))] H → va_D A [(o, .inr (12, mo q z)), ((q 34), .inl (cy 1, 8, .inl u0)), ((q 35), .inl (cy 1, 64, .inl u1)), ((q 36), .inl (cy 0, 32, .inl u2)), ((q 37), .inl (cy 0, 100200, .inl u3))] → va_S A s.heap H locs → lv_has ls 18 [(0, .ref o), (6, .int x6)] → W p l e rm_M_sha_f1hash s m args below meth c H locs 0 0 (MQ below (q_M_sha_f1hash D cy A o q z res) args s 0 0 A) (F0 m 597 ls [])
def I_M_sha_f1hash_348 (p : Program) (l : Launch) (e : Env) (s : State) (m : MethodId) (args : Array Value) (below : List Frame) (meth : Method) (c : Code) (D : va_G) (cy : Nat → ClassId) (A : Nat → Prop) (ad : Nat → Nat) (o : Nat) (q : Nat → Nat) (z : Nat → Int32) (k : Int32 → Int32 → Int32 → Int32 → Int32 → Int32 → Int32 → Int32 → Int32 → Int32 → Int32 → (Nat → Int32) → (Nat → Int32) → (Nat → Int32) → (Nat → Int32) → Option ((Nat → Int32) × (Nat → Int32) × (Nat → Int32) × (Nat → Int32))) : Prop :=
  ∀ (x4 : Int32) (x6 : Int32) (x7 : Int32) (x8 : Int32) (x9 : Int32) (x10 : Int32) (x11 : Int32) (x12 : Int32) (x13 : Int32) (x14 : Int32) (x15 : Int32) (u0 : Nat → Int32) (u1 : Nat → Int32) (u2 : Nat → Int32) (u3 : Nat → Int32) (res : (Nat → Int32) × (Nat → Int32) × (Nat → Int32) × (Nat → Int32)), k x4 x6 x7 x8 x9 x10 x11 x12 x13 x14 x15 u0 u1 u2 u3 = some res → ∀ (H : Heap) (locs : List Loc) (ls : Array Slot), va_P D classes [(o, .inr (12, mo q z)), ((q 34), .inl (cy 1, 8, .inl u0)), ((q 35), .inl (cy 1, 64, .inl u1)), ((q 36), .inl (cy 0, 32, .inl u2)), ((q 37), .inl (cy 0, 100200, .inl u3))] H → va_D A [(o, .inr (12, mo q z)), ((q 34), .inl (cy 1, 8, .inl u0)), ((q 35), .inl (cy 1, 64, .inl u1)), ((q 36), .inl (cy 0, 32, .inl u2)), ((q 37), .inl (cy 0, 100200, .inl u3))] → va_S A s.heap H locs → lv_has ls 18 [(0, .ref o), (4, .int x4), (6, .int x6), (7, .int x7), (8, .int x8), (9, .int x9), (10, .int x10), (11, .int x11), (12, .int x12), (13, .int x13), (14, .int x14), (15, .int x15)] → W p l e rm_M_sha_f1hash s m args below meth c H locs 0 0 (MQ below (q_M_sha_f1hash D cy A o q z res) args s 0 0 A) (F0 m 348 ls [])
def I_M_sha_f1hash_172 (p : Program) (l : Launch) (e : Env) (s : State) (m : MethodId) (args : Array Value) (below : List Frame) (meth : Method) (c : Code) (D : va_G) (cy : Nat → ClassId) (A : Nat → Prop) (ad : Nat → Nat) (o : Nat) (q : Nat → Nat) (z : Nat → Int32) (k : Int32 → Int32 → Int32 → (Nat → Int32) → (Nat → Int32) → (Nat → Int32) → (Nat → Int32) → Option ((Nat → Int32) × (Nat → Int32) × (Nat → Int32) × (Nat → Int32))) : Prop :=
  ∀ (x4 : Int32) (x6 : Int32) (x7 : Int32) (u0 : Nat → Int32) (u1 : Nat → Int32) (u2 : Nat → Int32) (u3 : Nat → Int32) (res : (Nat → Int32) × (Nat → Int32) × (Nat → Int32) × (Nat → Int32)), k x4 x6 x7 u0 u1 u2 u3 = some res → ∀ (H : Heap) (locs : List Loc) (ls : Array Slot), va_P D classes [(o, .inr (12, mo q z)), ((q 34), .inl (cy 1, 8, .inl u0)), ((q 35), .inl (cy 1, 64, .inl u1)), ((q 36), .inl (cy 0, 32, .inl u2)), ((q 37), .inl (cy 0, 100200, .inl u3))] H → va_D A [(o, .inr (12, mo q z)), ((q 34), .inl (cy 1, 8, .inl u0)), ((q 35), .inl (cy 1, 64, .inl u1)), ((q 36), .inl (cy 0, 32, .inl u2)), ((q 37), .inl (cy 0, 100200, .inl u3))] → va_S A s.heap H locs → lv_has ls 18 [(0, .ref o), (4, .int x4), (6, .int x6), (7, .int x7)] → W p l e rm_M_sha_f1hash s m args below meth c H locs 0 0 (MQ below (q_M_sha_f1hash D cy A o q z res) args s 0 0 A) (F0 m 172 ls [])
def I_M_sha_f1hash_131 (p : Program) (l : Launch) (e : Env) (s : State) (m : MethodId) (args : Array Value) (below : List Frame) (meth : Method) (c : Code) (D : va_G) (cy : Nat → ClassId) (A : Nat → Prop) (ad : Nat → Nat) (o : Nat) (q : Nat → Nat) (z : Nat → Int32) (k : Int32 → Int32 → Int32 → (Nat → Int32) → (Nat → Int32) → (Nat → Int32) → (Nat → Int32) → Option ((Nat → Int32) × (Nat → Int32) × (Nat → Int32) × (Nat → Int32))) : Prop :=
  ∀ (x4 : Int32) (x6 : Int32) (x7 : Int32) (u0 : Nat → Int32) (u1 : Nat → Int32) (u2 : Nat → Int32) (u3 : Nat → Int32) (res : (Nat → Int32) × (Nat → Int32) × (Nat → Int32) × (Nat → Int32)), k x4 x6 x7 u0 u1 u2 u3 = some res → ∀ (H : Heap) (locs : List Loc) (ls : Array Slot), va_P D classes [(o, .inr (12, mo q z)), ((q 34), .inl (cy 1, 8, .inl u0)), ((q 35), .inl (cy 1, 64, .inl u1)), ((q 36), .inl (cy 0, 32, .inl u2)), ((q 37), .inl (cy 0, 100200, .inl u3))] H → va_D A [(o, .inr (12, mo q z)), ((q 34), .inl (cy 1, 8, .inl u0)), ((q 35), .inl (cy 1, 64, .inl u1)), ((q 36), .inl (cy 0, 32, .inl u2)), ((q 37), .inl (cy 0, 100200, .inl u3))] → va_S A s.heap H locs → lv_has ls 18 [(0, .ref o), (4, .int x4), (6, .int x6), (7, .int x7)] → W p l e rm_M_sha_f1hash s m args below meth c H locs 0 0 (MQ below (q_M_sha_f1hash D cy A o q z res) args s 0 0 A) (F0 m 131 ls [])
def I_M_sha_f1hash_121 (p : Program) (l : Launch) (e : Env) (s : State) (m : MethodId) (args : Array Value) (below : List Frame) (meth : Method) (c : Code) (D : va_G) (cy : Nat → ClassId) (A : Nat → Prop) (ad : Nat → Nat) (o : Nat) (q : Nat → Nat) (z : Nat → Int32) (k : Int32 → Int32 → (Nat → Int32) → (Nat → Int32) → (Nat → Int32) → (Nat → Int32) → Option ((Nat → Int32) × (Nat → Int32) × (Nat → Int32) × (Nat → Int32))) : Prop :=
  ∀ (x4 : Int32) (x6 : Int32) (u0 : Nat → Int32) (u1 : Nat → Int32) (u2 : Nat → Int32) (u3 : Nat → Int32) (res : (Nat → Int32) × (Nat → Int32) × (Nat → Int32) × (Nat → Int32)), k x4 x6 u0 u1 u2 u3 = some res → ∀ (H : Heap) (locs : List Loc) (ls : Array Slot), va_P D classes [(o, .inr (12, mo q z)), ((q 34), .inl (cy 1, 8, .inl u0)), ((q 35), .inl (cy 1, 64, .inl u1)), ((q 36), .inl (cy 0, 32, .inl u2)), ((q 37), .inl (cy 0, 100200, .inl u3))] H → va_D A [(o, .inr (12, mo q z)), ((q 34), .inl (cy 1, 8, .inl u0)), ((q 35), .inl (cy 1, 64, .inl u1)), ((q 36), .inl (cy 0, 32, .inl u2)), ((q 37), .inl (cy 0, 100200, .inl u3))] → va_S A s.heap H locs → lv_has ls 18 [(0, .ref o), (4, .int x4), (6, .int x6)] → W p l e rm_M_sha_f1hash s m args below meth c H locs 0 0 (MQ below (q_M_sha_f1hash D cy A o q z res) args s 0 0 A) (F0 m 121 ls [])
def I_M_sha_f1hash_65 (p : Program) (l : Launch) (e : Env) (s : State) (m : MethodId) (args : Array Value) (below : List Frame) (meth : Method) (c : Code) (D : va_G) (cy : Nat → ClassId) (A : Nat → Prop) (ad : Nat → Nat) (o : Nat) (q : Nat → Nat) (z : Nat → Int32) (k : Int32 → Int32 → Int32 → Int32 → (Nat → Int32) → (Nat → Int32) → (Nat → Int32) → (Nat → Int32) → Option ((Nat → Int32) × (Nat → Int32) × (Nat → Int32) × (Nat → Int32))) : Prop :=
  ∀ (x3 : Int32) (x4 : Int32) (x5 : Int32) (x6 : Int32) (u0 : Nat → Int32) (u1 : Nat → Int32) (u2 : Nat → Int32) (u3 : Nat → Int32) (res : (Nat → Int32) × (Nat → Int32) × (Nat → Int32) × (Nat → Int32)), k x3 x4 x5 x6 u0 u1 u2 u3 = some res → ∀ (H : Heap) (locs : List Loc) (ls : Array Slot), va_P D classes [(o, .inr (12, mo q z)), ((q 34), .inl (cy 1, 8, .inl u0)), ((q 35), .inl (cy 1, 64, .inl u1)), ((q 36), .inl (cy 0, 32, .inl u2)), ((q 37), .inl (cy 0, 100200, .inl u3))] H → va_D A [(o, .inr (12, mo q z)), ((q 34), .inl (cy 1, 8, .inl u0)), ((q 35), .inl (cy 1, 64, .inl u1)), ((q 36), .inl (cy 0, 32, .inl u2)), ((q 37), .inl (cy 0, 100200, .inl u3))] → va_S A s.heap H locs → lv_has ls 18 [(0, .ref o), (3, .int x3), (4, .int x4), (5, .int x5), (6, .int x6)] → W p l e rm_M_sha_f1hash s m args below meth c H locs 0 0 (MQ below (q_M_sha_f1hash D cy A o q z res) args s 0 0 A) (F0 m 65 ls [])
def I_M_sha_f1hash_33 (p : Program) (l : Launch) (e : Env) (s : State) (m : MethodId) (args : Array Value) (below : List Frame) (meth : Method) (c : Code) (D : va_G) (cy : Nat → ClassId) (A : Nat → Prop) (ad : Nat → Nat) (o : Nat) (q : Nat → Nat) (z : Nat → Int32) (k : Int32 → Int32 → Int32 → Int32 → (Nat → Int32) → (Nat → Int32) → (Nat → Int32) → (Nat → Int32) → Option ((Nat → Int32) × (Nat → Int32) × (Nat → Int32) × (Nat → Int32))) : Prop :=
  ∀ (x3 : Int32) (x4 : Int32) (x5 : Int32) (x6 : Int32) (u0 : Nat → Int32) (u1 : Nat → Int32) (u2 : Nat → Int32) (u3 : Nat → Int32) (res : (Nat → Int32) × (Nat → Int32) × (Nat → Int32) × (Nat → Int32)), k x3 x4 x5 x6 u0 u1 u2 u3 = some res → ∀ (H : Heap) (locs : List Loc) (ls : Array Slot), va_P D classes [(o, .inr (12, mo q z)), ((q 34), .inl (cy 1, 8, .inl u0)), ((q 35), .inl (cy 1, 64, .inl u1)), ((q 36), .inl (cy 0, 32, .inl u2)), ((q 37), .inl (cy 0, 100200, .inl u3))] H → va_D A [(o, .inr (12, mo q z)), ((q 34), .inl (cy 1, 8, .inl u0)), ((q 35), .inl (cy 1, 64, .inl u1)), ((q 36), .inl (cy 0, 32, .inl u2)), ((q 37), .inl (cy 0, 100200, .inl u3))] → va_S A s.heap H locs → lv_has ls 18 [(0, .ref o), (3, .int x3), (4, .int x4), (5, .int x5), (6, .int x6)] → W p l e rm_M_sha_f1hash s m args below meth c H locs 0 0 (MQ below (q_M_sha_f1hash D cy A o q z res) args s 0 0 A) (F0 m 33 ls [])
def I_M_sha_f1hash_e (p : Program) (l : Launch) (e : Env) (s : State) (m : MethodId) (args : Array Value) (below : List Frame) (meth : Method) (c : Code) (D : va_G) (cy : Nat → ClassId) (A : Nat → Prop) (ad : Nat → Nat) (o : Nat) (q : Nat → Nat) (z : Nat → Int32) (k : Int32 → Int32 → (Nat → Int32) → (Nat → Int32) → (Nat → Int32) → (Nat → Int32) → Option ((Nat → Int32) × (Nat → Int32) × (Nat → Int32) × (Nat → Int32))) : Prop :=
  ∀ (a2 : Int32) (a3 : Int32) (u0 : Nat → Int32) (u1 : Nat → Int32) (u2 : Nat → Int32) (u3 : Nat → Int32) (res : (Nat → Int32) × (Nat → Int32) × (Nat → Int32) × (Nat → Int32)), k a2 a3 u0 u1 u2 u3 = some res → ∀ (H : Heap) (locs : List Loc) (ls : Array Slot), va_P D classes [(o, .inr (12, mo q z)), ((q 34), .inl (cy 1, 8, .inl u0)), ((q 35), .inl (cy 1, 64, .inl u1)), ((q 36), .inl (cy 0, 32, .inl u2)), ((q 37), .inl (cy 0, 100200, .inl u3))] H → va_D A [(o, .inr (12, mo q z)), ((q 34), .inl (cy 1, 8, .inl u0)), ((q 35), .inl (cy 1, 64, .inl u1)), ((q 36), .inl (cy 0, 32, .inl u2)), ((q 37), .inl (cy 0, 100200, .inl u3))] → va_S A s.heap H locs → lv_has ls 18 [(0, .ref o), (1, .ref (q 36)), (2, .int a2), (3, .int a3)] → W p l e rm_M_sha_f1hash s m args below meth c H locs 0 0 (MQ below (q_M_sha_f1hash D cy A o q z res) args s 0 0 A) (F0 m 0 ls [])
set_option maxHeartbeats 8000000 in
set_option maxRecDepth 100000 in
theorem wb_M_sha_f1hash_607 {p : Program} {l : Launch} {e : Env} {s : State} {m : MethodId} {args : Array Value} {below : List Frame} {meth : Method} {c : Code} {D : va_G} {cy : Nat → ClassId} {A : Nat → Prop} {ad : Nat → Nat} {o : Nat} {q : Nat → Nat} {z : Nat → Int32} {fu : Nat} {k_597 : Int32 → (Nat → Int32) → (Nat → Int32) → (Nat → Int32) → (Nat → Int32) → Option ((Nat → Int32) × (Nat → Int32) × (Nat → Int32) × (Nat → Int32))} {k_607 : Int32 → Int32 → (Nat → Int32) → (Nat → Int32) → (Nat → Int32) → (Nat → Int32) → Option ((Nat → Int32) × (Nat → Int32) × (Nat → Int32) × (Nat → Int32))} (F : Fx p s m args meth c b_M_sha 18 "CoinKeeperModel" "sha" none D cy ad A) (hk_597 : I_M_sha_f1hash_597 p l e s m args below meth c D cy A ad o q z k_597) (hk_607 : I_M_sha_f1hash_607 p l e s m args below meth c D cy A ad o q z k_607) : I_M_sha_f1hash_607 p l e s m args below meth c D cy A ad o q z (xb_M_sha_f1hash_607 fu z k_597 k_607) := by
  obtain ⟨hx, hb, hr, hml, hown, hts, hlocks, hK, hA, hSt, hnm, hex⟩ := id F
  intro x6 x7 u0 u1 u2 u3 res hf H locs ls hP hD hS hl
  unfold xb_M_sha_f1hash_607 at hf
  refine lv_iload hx hb d_M_sha_607 (lv_at hl 2 rfl) ?_
  refine lv_iconst (v := 4) hx hb d_M_sha_609 (by decide) ?_
  refine lv_icmp_ge (tgt := 648) hx hb d_M_sha_610 (by decide) (fun cx => ?_) (fun cx => ?_)
  · have hf := ifp cx hf
    obtain ⟨v1, ev, hf⟩ := bne hf
    refine lv_iinc (v := v1) (lv' := [(6, .int v1), (0, .ref o), (7, .int x7)]) hx hb d_M_sha_648 hl (k := 1) rfl (by rw [ev]; rfl) (by decide) rfl (fun ls hl => ?_)
    clear ev
    refine lv_goto (tgt := 597) hx hb d_M_sha_651 (by decide) ?_
    exact hk_597 _ _ _ _ _ _ hf _ _ _ hP hD hS (lv_sub hl [1, 0] rfl)
  · have hf := ifn cx hf
    refine lv_aload_n hx hb d_M_sha_613 rfl (lv_at hl 0 rfl) ?_
    refine va_get (D := D) (ci := 12) (v := .ref (q 36)) (C := "CoinKeeperModel") (T := F_12) (N := 98) hx hb hts i_12 hown hK hP 0 rfl rfl 44 (by decide) (hts _ gw_1463) (fun _ h9 => h9) rfl d_M_sha_614 ?_
    refine lv_iconst (v := 4) hx hb d_M_sha_617 (by decide) ?_
    refine lv_iload hx hb d_M_sha_618 (lv_at hl 1 rfl) ?_
    refine lv_imul hx hb d_M_sha_620 ?_
    refine lv_topi (fun v2 ev => ?_)
    have hf := bn ev hf
    clear ev
    refine lv_iload hx hb d_M_sha_621 (lv_at hl 2 rfl) ?_
    refine lv_iadd hx hb d_M_sha_623 ?_
    refine lv_topi (fun v3 ev => ?_)
    have hf := bn ev hf
    clear ev
    refine lv_aload_n hx hb d_M_sha_624 rfl (lv_at hl 0 rfl) ?_
    refine va_get (D := D) (ci := 12) (v := .ref (q 34)) (C := "CoinKeeperModel") (T := F_12) (N := 98) hx hb hts i_12 hown hK hP 0 rfl rfl 42 (by decide) (hts _ gw_1461) (fun _ h9 => h9) rfl d_M_sha_625 ?_
    refine lv_iload hx hb d_M_sha_628 (lv_at hl 1 rfl) ?_
    obtain ⟨hg, hf⟩ := gdp hf
    refine va_iald hx hb hK hP 1 1 rfl rfl (inb_in hg) d_M_sha_630 ?_
    refine lv_topi (fun v4 ev => ?_)
    have hf := bn ev hf
    clear ev
    refine lv_bipush (v := 24) hx hb d_M_sha_631 (by decide) ?_
    refine lv_bipush (v := 8) hx hb d_M_sha_633 (by decide) ?_
    refine lv_iload hx hb d_M_sha_635 (lv_at hl 2 rfl) ?_
    refine lv_imul hx hb d_M_sha_637 ?_
    refine lv_isub hx hb d_M_sha_638 ?_
    refine lv_ishr hx hb d_M_sha_639 ?_
    refine lv_i2b hx hb d_M_sha_640 rfl ?_
    refine lv_topi (fun v5 ev => ?_)
    have hf := bn ev hf
    clear ev
    obtain ⟨hg, hf⟩ := gdp hf
    refine va_bast hx hb hK hP hD hS 3 0 rfl rfl (inb_in hg) d_M_sha_641 (fun H locs hP hD hS => ?_)
    obtain ⟨f6, ev, hf⟩ := bne hf
    have hP : va_P D classes [(o, .inr (12, mo q z)), ((q 34), .inl (cy 1, 8, .inl u0)), ((q 35), .inl (cy 1, 64, .inl u1)), ((q 36), .inl (cy 0, 32, .inl f6)), ((q 37), .inl (cy 0, 100200, .inl u3))] H := by rw [ev]; exact hP
    have hD : va_D A [(o, .inr (12, mo q z)), ((q 34), .inl (cy 1, 8, .inl u0)), ((q 35), .inl (cy 1, 64, .inl u1)), ((q 36), .inl (cy 0, 32, .inl f6)), ((q 37), .inl (cy 0, 100200, .inl u3))] := by rw [ev]; exact hD
    clear ev
    obtain ⟨v7, ev, hf⟩ := bne hf
    refine lv_iinc (v := v7) (lv' := [(7, .int v7), (0, .ref o), (6, .int x6)]) hx hb d_M_sha_642 hl (k := 2) rfl (by rw [ev]; rfl) (by decide) rfl (fun ls hl => ?_)
    clear ev
    refine lv_goto (tgt := 607) hx hb d_M_sha_645 (by decide) ?_
    exact hk_607 _ _ _ _ _ _ _ hf _ _ _ hP hD hS (lv_sub hl [1, 2, 0] rfl)
theorem w_M_sha_f1hash_607 {p : Program} {l : Launch} {e : Env} {s : State} {m : MethodId} {args : Array Value} {below : List Frame} {meth : Method} {c : Code} {D : va_G} {cy : Nat → ClassId} {A : Nat → Prop} {ad : Nat → Nat} {o : Nat} {q : Nat → Nat} {z : Nat → Int32} {fu : Nat} {k_597 : Int32 → (Nat → Int32) → (Nat → Int32) → (Nat → Int32) → (Nat → Int32) → Option ((Nat → Int32) × (Nat → Int32) × (Nat → Int32) × (Nat → Int32))} (F : Fx p s m args meth c b_M_sha 18 "CoinKeeperModel" "sha" none D cy ad A) (hk_597 : I_M_sha_f1hash_597 p l e s m args below meth c D cy A ad o q z k_597) : ∀ n : Nat, I_M_sha_f1hash_607 p l e s m args below meth c D cy A ad o q z (x_M_sha_f1hash_607 fu z k_597 n)
  | 0 => fun _ _ _ _ _ _ _ hf => nomatch (show (none : Option ((Nat → Int32) × (Nat → Int32) × (Nat → Int32) × (Nat → Int32))) = some _ from hf)
  | n + 1 => wb_M_sha_f1hash_607 F hk_597 (w_M_sha_f1hash_607 F hk_597 n)
set_option maxHeartbeats 8000000 in
set_option maxRecDepth 100000 in
theorem wb_M_sha_f1hash_597 {p : Program} {l : Launch} {e : Env} {s : State} {m : MethodId} {args : Array Value} {below : List Frame} {meth : Method} {c : Code} {D : va_G} {cy : Nat → ClassId} {A : Nat → Prop} {ad : Nat → Nat} {o : Nat} {q : Nat → Nat} {z : Nat → Int32} {fu : Nat} {k_597 : Int32 → (Nat → Int32) → (Nat → Int32) → (Nat → Int32) → (Nat → Int32) → Option ((Nat → Int32) × (Nat → Int32) × (Nat → Int32) × (Nat → Int32))} (F : Fx p s m args meth c b_M_sha 18 "CoinKeeperModel" "sha" none D cy ad A) (hk_597 : I_M_sha_f1hash_597 p l e s m args below meth c D cy A ad o q z k_597) : I_M_sha_f1hash_597 p l e s m args below meth c D cy A ad o q z (xb_M_sha_f1hash_597 fu z k_597) := by
  obtain ⟨hx, hb, hr, hml, hown, hts, hlocks, hK, hA, hSt, hnm, hex⟩ := id F
  intro x6 u0 u1 u2 u3 res hf H locs ls hP hD hS hl
  unfold xb_M_sha_f1hash_597 at hf
  refine lv_iload hx hb d_M_sha_597 (lv_at hl 1 rfl) ?_
  refine lv_bipush (v := 8) hx hb d_M_sha_599 (by decide) ?_
  refine lv_icmp_ge (tgt := 654) hx hb d_M_sha_601 (by decide) (fun cx => ?_) (fun cx => ?_)
  · have hf := ifp cx hf
    obtain rfl := Option.some.inj hf
    exact q_rv hx hb hr hlocks hK hP hD hS d_M_sha_654
  · have hf := ifn cx hf
    refine lv_iconst (v := 0) hx hb d_M_sha_604 (by decide) ?_
    refine lv_istore (lv' := [(7, .int (0 : Int32)), (0, .ref o), (6, .int x6)]) hx hb d_M_sha_605 hl (by decide) rfl (fun ls hl => ?_)
    exact w_M_sha_f1hash_607 F hk_597 fu _ _ _ _ _ _ _ hf _ _ _ hP hD hS (lv_sub hl [1, 2, 0] rfl)
theorem w_M_sha_f1hash_597 {p : Program} {l : Launch} {e : Env} {s : State} {m : MethodId} {args : Array Value} {below : List Frame} {meth : Method} {c : Code} {D : va_G} {cy : Nat → ClassId} {A : Nat → Prop} {ad : Nat → Nat} {o : Nat} {q : Nat → Nat} {z : Nat → Int32} {fu : Nat} (F : Fx p s m args meth c b_M_sha 18 "CoinKeeperModel" "sha" none D cy ad A) : ∀ n : Nat, I_M_sha_f1hash_597 p l e s m args below meth c D cy A ad o q z (x_M_sha_f1hash_597 fu z n)
  | 0 => fun _ _ _ _ _ _ hf => nomatch (show (none : Option ((Nat → Int32) × (Nat → Int32) × (Nat → Int32) × (Nat → Int32))) = some _ from hf)
  | n + 1 => wb_M_sha_f1hash_597 F (w_M_sha_f1hash_597 F n)
set_option maxHeartbeats 8000000 in
set_option maxRecDepth 100000 in
theorem wb_M_sha_f1hash_348 {p : Program} {l : Launch} {e : Env} {s : State} {m : MethodId} {args : Array Value} {below : List Frame} {meth : Method} {c : Code} {D : va_G} {cy : Nat → ClassId} {A : Nat → Prop} {ad : Nat → Nat} {o : Nat} {q : Nat → Nat} {z : Nat → Int32} {fu : Nat} {k_121 : Int32 → Int32 → (Nat → Int32) → (Nat → Int32) → (Nat → Int32) → (Nat → Int32) → Option ((Nat → Int32) × (Nat → Int32) × (Nat → Int32) × (Nat → Int32))} {k_348 : Int32 → Int32 → Int32 → Int32 → Int32 → Int32 → Int32 → Int32 → Int32 → Int32 → Int32 → (Nat → Int32) → (Nat → Int32) → (Nat → Int32) → (Nat → Int32) → Option ((Nat → Int32) × (Nat → Int32) × (Nat → Int32) × (Nat → Int32))} (F : Fx p s m args meth c b_M_sha 18 "CoinKeeperModel" "sha" none D cy ad A) (hk_121 : I_M_sha_f1hash_121 p l e s m args below meth c D cy A ad o q z k_121) (hk_348 : I_M_sha_f1hash_348 p l e s m args below meth c D cy A ad o q z k_348) : I_M_sha_f1hash_348 p l e s m args below meth c D cy A ad o q z (xb_M_sha_f1hash_348 fu z k_121 k_348) := by
  obtain ⟨hx, hb, hr, hml, hown, hts, hlocks, hK, hA, hSt, hnm, hex⟩ := id F
  intro x4 x6 x7 x8 x9 x10 x11 x12 x13 x14 x15 u0 u1 u2 u3 res hf H locs ls hP hD hS hl
  unfold xb_M_sha_f1hash_348 at hf
  refine lv_iload hx hb d_M_sha_348 (lv_at hl 11 rfl) ?_
  refine lv_bipush (v := 64) hx hb d_M_sha_350 (by decide) ?_
  refine lv_icmp_ge (tgt := 498) hx hb d_M_sha_352 (by decide) (fun cx => ?_) (fun cx => ?_)
  · have hf := ifp cx hf
    refine lv_aload_n hx hb d_M_sha_498 rfl (lv_at hl 0 rfl) ?_
    refine va_get (D := D) (ci := 12) (v := .ref (q 34)) (C := "CoinKeeperModel") (T := F_12) (N := 98) hx hb hts i_12 hown hK hP 0 rfl rfl 42 (by decide) (hts _ gw_1461) (fun _ h9 => h9) rfl d_M_sha_499 ?_
    refine lv_iconst (v := 0) hx hb d_M_sha_502 (by decide) ?_
    refine lv_dup2_11 hx hb d_M_sha_503 rfl rfl ?_
    refine va_iald hx hb hK hP 1 1 rfl rfl (inb_in (by decide)) d_M_sha_504 ?_
    refine lv_topi (fun v1 ev => ?_)
    have hf := bn ev hf
    clear ev
    refine lv_iload hx hb d_M_sha_505 (lv_at hl 3 rfl) ?_
    refine lv_iadd hx hb d_M_sha_507 ?_
    refine lv_topi (fun v2 ev => ?_)
    have hf := bn ev hf
    clear ev
    refine va_iast hx hb hK hP hD hS 1 1 rfl rfl (inb_in (by decide)) d_M_sha_508 (fun H locs hP hD hS => ?_)
    obtain ⟨f3, ev, hf⟩ := bne hf
    have hP : va_P D classes [(o, .inr (12, mo q z)), ((q 34), .inl (cy 1, 8, .inl f3)), ((q 35), .inl (cy 1, 64, .inl u1)), ((q 36), .inl (cy 0, 32, .inl u2)), ((q 37), .inl (cy 0, 100200, .inl u3))] H := by rw [ev]; exact hP
    have hD : va_D A [(o, .inr (12, mo q z)), ((q 34), .inl (cy 1, 8, .inl f3)), ((q 35), .inl (cy 1, 64, .inl u1)), ((q 36), .inl (cy 0, 32, .inl u2)), ((q 37), .inl (cy 0, 100200, .inl u3))] := by rw [ev]; exact hD
    clear ev
    refine lv_aload_n hx hb d_M_sha_509 rfl (lv_at hl 0 rfl) ?_
    refine va_get (D := D) (ci := 12) (v := .ref (q 34)) (C := "CoinKeeperModel") (T := F_12) (N := 98) hx hb hts i_12 hown hK hP 0 rfl rfl 42 (by decide) (hts _ gw_1461) (fun _ h9 => h9) rfl d_M_sha_510 ?_
    refine lv_iconst (v := 1) hx hb d_M_sha_513 (by decide) ?_
    refine lv_dup2_11 hx hb d_M_sha_514 rfl rfl ?_
    refine va_iald hx hb hK hP 1 1 rfl rfl (inb_in (by decide)) d_M_sha_515 ?_
    refine lv_topi (fun v4 ev => ?_)
    have hf := bn ev hf
    clear ev
    refine lv_iload hx hb d_M_sha_516 (lv_at hl 4 rfl) ?_
    refine lv_iadd hx hb d_M_sha_518 ?_
    refine lv_topi (fun v5 ev => ?_)
    have hf := bn ev hf
    clear ev
    refine va_iast hx hb hK hP hD hS 1 1 rfl rfl (inb_in (by decide)) d_M_sha_519 (fun H locs hP hD hS => ?_)
    obtain ⟨f6, ev, hf⟩ := bne hf
    have hP : va_P D classes [(o, .inr (12, mo q z)), ((q 34), .inl (cy 1, 8, .inl f6)), ((q 35), .inl (cy 1, 64, .inl u1)), ((q 36), .inl (cy 0, 32, .inl u2)), ((q 37), .inl (cy 0, 100200, .inl u3))] H := by rw [ev]; exact hP
    have hD : va_D A [(o, .inr (12, mo q z)), ((q 34), .inl (cy 1, 8, .inl f6)), ((q 35), .inl (cy 1, 64, .inl u1)), ((q 36), .inl (cy 0, 32, .inl u2)), ((q 37), .inl (cy 0, 100200, .inl u3))] := by rw [ev]; exact hD
    clear ev
    refine lv_aload_n hx hb d_M_sha_520 rfl (lv_at hl 0 rfl) ?_
    refine va_get (D := D) (ci := 12) (v := .ref (q 34)) (C := "CoinKeeperModel") (T := F_12) (N := 98) hx hb hts i_12 hown hK hP 0 rfl rfl 42 (by decide) (hts _ gw_1461) (fun _ h9 => h9) rfl d_M_sha_521 ?_
    refine lv_iconst (v := 2) hx hb d_M_sha_524 (by decide) ?_
    refine lv_dup2_11 hx hb d_M_sha_525 rfl rfl ?_
    refine va_iald hx hb hK hP 1 1 rfl rfl (inb_in (by decide)) d_M_sha_526 ?_
    refine lv_topi (fun v7 ev => ?_)
    have hf := bn ev hf
    clear ev
    refine lv_iload hx hb d_M_sha_527 (lv_at hl 5 rfl) ?_
    refine lv_iadd hx hb d_M_sha_529 ?_
    refine lv_topi (fun v8 ev => ?_)
    have hf := bn ev hf
    clear ev
    refine va_iast hx hb hK hP hD hS 1 1 rfl rfl (inb_in (by decide)) d_M_sha_530 (fun H locs hP hD hS => ?_)
    obtain ⟨f9, ev, hf⟩ := bne hf
    have hP : va_P D classes [(o, .inr (12, mo q z)), ((q 34), .inl (cy 1, 8, .inl f9)), ((q 35), .inl (cy 1, 64, .inl u1)), ((q 36), .inl (cy 0, 32, .inl u2)), ((q 37), .inl (cy 0, 100200, .inl u3))] H := by rw [ev]; exact hP
    have hD : va_D A [(o, .inr (12, mo q z)), ((q 34), .inl (cy 1, 8, .inl f9)), ((q 35), .inl (cy 1, 64, .inl u1)), ((q 36), .inl (cy 0, 32, .inl u2)), ((q 37), .inl (cy 0, 100200, .inl u3))] := by rw [ev]; exact hD
    clear ev
    refine lv_aload_n hx hb d_M_sha_531 rfl (lv_at hl 0 rfl) ?_
    refine va_get (D := D) (ci := 12) (v := .ref (q 34)) (C := "CoinKeeperModel") (T := F_12) (N := 98) hx hb hts i_12 hown hK hP 0 rfl rfl 42 (by decide) (hts _ gw_1461) (fun _ h9 => h9) rfl d_M_sha_532 ?_
    refine lv_iconst (v := 3) hx hb d_M_sha_535 (by decide) ?_
    refine lv_dup2_11 hx hb d_M_sha_536 rfl rfl ?_
    refine va_iald hx hb hK hP 1 1 rfl rfl (inb_in (by decide)) d_M_sha_537 ?_
    refine lv_topi (fun v10 ev => ?_)
    have hf := bn ev hf
    clear ev
    refine lv_iload hx hb d_M_sha_538 (lv_at hl 6 rfl) ?_
    refine lv_iadd hx hb d_M_sha_540 ?_
    refine lv_topi (fun v11 ev => ?_)
    have hf := bn ev hf
    clear ev
    refine va_iast hx hb hK hP hD hS 1 1 rfl rfl (inb_in (by decide)) d_M_sha_541 (fun H locs hP hD hS => ?_)
    obtain ⟨f12, ev, hf⟩ := bne hf
    have hP : va_P D classes [(o, .inr (12, mo q z)), ((q 34), .inl (cy 1, 8, .inl f12)), ((q 35), .inl (cy 1, 64, .inl u1)), ((q 36), .inl (cy 0, 32, .inl u2)), ((q 37), .inl (cy 0, 100200, .inl u3))] H := by rw [ev]; exact hP
    have hD : va_D A [(o, .inr (12, mo q z)), ((q 34), .inl (cy 1, 8, .inl f12)), ((q 35), .inl (cy 1, 64, .inl u1)), ((q 36), .inl (cy 0, 32, .inl u2)), ((q 37), .inl (cy 0, 100200, .inl u3))] := by rw [ev]; exact hD
    clear ev
    refine lv_aload_n hx hb d_M_sha_542 rfl (lv_at hl 0 rfl) ?_
    refine va_get (D := D) (ci := 12) (v := .ref (q 34)) (C := "CoinKeeperModel") (T := F_12) (N := 98) hx hb hts i_12 hown hK hP 0 rfl rfl 42 (by decide) (hts _ gw_1461) (fun _ h9 => h9) rfl d_M_sha_543 ?_
    refine lv_iconst (v := 4) hx hb d_M_sha_546 (by decide) ?_
    refine lv_dup2_11 hx hb d_M_sha_547 rfl rfl ?_
    refine va_iald hx hb hK hP 1 1 rfl rfl (inb_in (by decide)) d_M_sha_548 ?_
    refine lv_topi (fun v13 ev => ?_)
    have hf := bn ev hf
    clear ev
    refine lv_iload hx hb d_M_sha_549 (lv_at hl 7 rfl) ?_
    refine lv_iadd hx hb d_M_sha_551 ?_
    refine lv_topi (fun v14 ev => ?_)
    have hf := bn ev hf
    clear ev
    refine va_iast hx hb hK hP hD hS 1 1 rfl rfl (inb_in (by decide)) d_M_sha_552 (fun H locs hP hD hS => ?_)
    obtain ⟨f15, ev, hf⟩ := bne hf
    have hP : va_P D classes [(o, .inr (12, mo q z)), ((q 34), .inl (cy 1, 8, .inl f15)), ((q 35), .inl (cy 1, 64, .inl u1)), ((q 36), .inl (cy 0, 32, .inl u2)), ((q 37), .inl (cy 0, 100200, .inl u3))] H := by rw [ev]; exact hP
    have hD : va_D A [(o, .inr (12, mo q z)), ((q 34), .inl (cy 1, 8, .inl f15)), ((q 35), .inl (cy 1, 64, .inl u1)), ((q 36), .inl (cy 0, 32, .inl u2)), ((q 37), .inl (cy 0, 100200, .inl u3))] := by rw [ev]; exact hD
    clear ev
    refine lv_aload_n hx hb d_M_sha_553 rfl (lv_at hl 0 rfl) ?_
    refine va_get (D := D) (ci := 12) (v := .ref (q 34)) (C := "CoinKeeperModel") (T := F_12) (N := 98) hx hb hts i_12 hown hK hP 0 rfl rfl 42 (by decide) (hts _ gw_1461) (fun _ h9 => h9) rfl d_M_sha_554 ?_
    refine lv_iconst (v := 5) hx hb d_M_sha_557 (by decide) ?_
    refine lv_dup2_11 hx hb d_M_sha_558 rfl rfl ?_
    refine va_iald hx hb hK hP 1 1 rfl rfl (inb_in (by decide)) d_M_sha_559 ?_
    refine lv_topi (fun v16 ev => ?_)
    have hf := bn ev hf
    clear ev
    refine lv_iload hx hb d_M_sha_560 (lv_at hl 8 rfl) ?_
    refine lv_iadd hx hb d_M_sha_562 ?_
    refine lv_topi (fun v17 ev => ?_)
    have hf := bn ev hf
    clear ev
    refine va_iast hx hb hK hP hD hS 1 1 rfl rfl (inb_in (by decide)) d_M_sha_563 (fun H locs hP hD hS => ?_)
    obtain ⟨f18, ev, hf⟩ := bne hf
    have hP : va_P D classes [(o, .inr (12, mo q z)), ((q 34), .inl (cy 1, 8, .inl f18)), ((q 35), .inl (cy 1, 64, .inl u1)), ((q 36), .inl (cy 0, 32, .inl u2)), ((q 37), .inl (cy 0, 100200, .inl u3))] H := by rw [ev]; exact hP
    have hD : va_D A [(o, .inr (12, mo q z)), ((q 34), .inl (cy 1, 8, .inl f18)), ((q 35), .inl (cy 1, 64, .inl u1)), ((q 36), .inl (cy 0, 32, .inl u2)), ((q 37), .inl (cy 0, 100200, .inl u3))] := by rw [ev]; exact hD
    clear ev
    refine lv_aload_n hx hb d_M_sha_564 rfl (lv_at hl 0 rfl) ?_
    refine va_get (D := D) (ci := 12) (v := .ref (q 34)) (C := "CoinKeeperModel") (T := F_12) (N := 98) hx hb hts i_12 hown hK hP 0 rfl rfl 42 (by decide) (hts _ gw_1461) (fun _ h9 => h9) rfl d_M_sha_565 ?_
    refine lv_bipush (v := 6) hx hb d_M_sha_568 (by decide) ?_
    refine lv_dup2_11 hx hb d_M_sha_570 rfl rfl ?_
    refine va_iald hx hb hK hP 1 1 rfl rfl (inb_in (by decide)) d_M_sha_571 ?_
    refine lv_topi (fun v19 ev => ?_)
    have hf := bn ev hf
    clear ev
    refine lv_iload hx hb d_M_sha_572 (lv_at hl 9 rfl) ?_
    refine lv_iadd hx hb d_M_sha_574 ?_
    refine lv_topi (fun v20 ev => ?_)
    have hf := bn ev hf
    clear ev
    refine va_iast hx hb hK hP hD hS 1 1 rfl rfl (inb_in (by decide)) d_M_sha_575 (fun H locs hP hD hS => ?_)
    obtain ⟨f21, ev, hf⟩ := bne hf
    have hP : va_P D classes [(o, .inr (12, mo q z)), ((q 34), .inl (cy 1, 8, .inl f21)), ((q 35), .inl (cy 1, 64, .inl u1)), ((q 36), .inl (cy 0, 32, .inl u2)), ((q 37), .inl (cy 0, 100200, .inl u3))] H := by rw [ev]; exact hP
    have hD : va_D A [(o, .inr (12, mo q z)), ((q 34), .inl (cy 1, 8, .inl f21)), ((q 35), .inl (cy 1, 64, .inl u1)), ((q 36), .inl (cy 0, 32, .inl u2)), ((q 37), .inl (cy 0, 100200, .inl u3))] := by rw [ev]; exact hD
    clear ev
    refine lv_aload_n hx hb d_M_sha_576 rfl (lv_at hl 0 rfl) ?_
    refine va_get (D := D) (ci := 12) (v := .ref (q 34)) (C := "CoinKeeperModel") (T := F_12) (N := 98) hx hb hts i_12 hown hK hP 0 rfl rfl 42 (by decide) (hts _ gw_1461) (fun _ h9 => h9) rfl d_M_sha_577 ?_
    refine lv_bipush (v := 7) hx hb d_M_sha_580 (by decide) ?_
    refine lv_dup2_11 hx hb d_M_sha_582 rfl rfl ?_
    refine va_iald hx hb hK hP 1 1 rfl rfl (inb_in (by decide)) d_M_sha_583 ?_
    refine lv_topi (fun v22 ev => ?_)
    have hf := bn ev hf
    clear ev
    refine lv_iload hx hb d_M_sha_584 (lv_at hl 10 rfl) ?_
    refine lv_iadd hx hb d_M_sha_586 ?_
    refine lv_topi (fun v23 ev => ?_)
    have hf := bn ev hf
    clear ev
    refine va_iast hx hb hK hP hD hS 1 1 rfl rfl (inb_in (by decide)) d_M_sha_587 (fun H locs hP hD hS => ?_)
    obtain ⟨f24, ev, hf⟩ := bne hf
    have hP : va_P D classes [(o, .inr (12, mo q z)), ((q 34), .inl (cy 1, 8, .inl f24)), ((q 35), .inl (cy 1, 64, .inl u1)), ((q 36), .inl (cy 0, 32, .inl u2)), ((q 37), .inl (cy 0, 100200, .inl u3))] H := by rw [ev]; exact hP
    have hD : va_D A [(o, .inr (12, mo q z)), ((q 34), .inl (cy 1, 8, .inl f24)), ((q 35), .inl (cy 1, 64, .inl u1)), ((q 36), .inl (cy 0, 32, .inl u2)), ((q 37), .inl (cy 0, 100200, .inl u3))] := by rw [ev]; exact hD
    clear ev
    obtain ⟨v25, ev, hf⟩ := bne hf
    refine lv_iinc (v := v25) (lv' := [(6, .int v25), (0, .ref o), (4, .int x4), (7, .int x7), (8, .int x8), (9, .int x9), (10, .int x10), (11, .int x11), (12, .int x12), (13, .int x13), (14, .int x14), (15, .int x15)]) hx hb d_M_sha_588 hl (k := 2) rfl (by rw [ev]; rfl) (by decide) rfl (fun ls hl => ?_)
    clear ev
    refine lv_goto (tgt := 121) hx hb d_M_sha_591 (by decide) ?_
    exact hk_121 _ _ _ _ _ _ _ hf _ _ _ hP hD hS (lv_sub hl [1, 2, 0] rfl)
  · have hf := ifn cx hf
    refine lv_iload hx hb d_M_sha_355 (lv_at hl 10 rfl) ?_
    refine lv_iload hx hb d_M_sha_357 (lv_at hl 7 rfl) ?_
    refine lv_bipush (v := 6) hx hb d_M_sha_359 (by decide) ?_
    obtain ⟨v26, hc, hf⟩ := bdp1 hf
    refine q_ai (wr := [(o, .inr (12, mo q z)), ((q 34), .inl (cy 1, 8, .inl u0)), ((q 35), .inl (cy 1, 64, .inl u1)), ((q 36), .inl (cy 0, 32, .inl u2)), ((q 37), .inl (cy 0, 100200, .inl u3))]) (va_runS (As := [.int x11, .int (6 : Int32)]) (rest := [.int x14]) ⟨hx, hb, hml, hown, hts⟩ (c_M_turn l D cy ad fu x11 (6 : Int32) _ hc H.size) ⟨q_cB hts gw_1774 gw_18 gw_1772 hdm_0 ⟨by decide, by decide⟩, hts _ gw_1773⟩ (q_pre (hP.sub [] rfl) (hD.sub [] (by decide) rfl) hK hSt hS (va_free hD hS hA [] rfl) _) rfl rfl hl.1 rfl (lv_room (Nat.le_of_ble_eq_true rfl)) d_M_sha_361 ⟨Nat.le_of_ble_eq_true rfl, Nat.le_of_ble_eq_true rfl⟩) hP hD hS hA [] [0, 1, 2, 3, 4] rfl rfl (by decide) (by decide) (fun H locs hP hD hS => ?_)
    clear hc
    have hP : va_P D classes [(o, .inr (12, mo q z)), ((q 34), .inl (cy 1, 8, .inl u0)), ((q 35), .inl (cy 1, 64, .inl u1)), ((q 36), .inl (cy 0, 32, .inl u2)), ((q 37), .inl (cy 0, 100200, .inl u3))] H := hP
    have hD : va_D A [(o, .inr (12, mo q z)), ((q 34), .inl (cy 1, 8, .inl u0)), ((q 35), .inl (cy 1, 64, .inl u1)), ((q 36), .inl (cy 0, 32, .inl u2)), ((q 37), .inl (cy 0, 100200, .inl u3))] := hD
    refine lv_iload hx hb d_M_sha_364 (lv_at hl 7 rfl) ?_
    refine lv_bipush (v := 11) hx hb d_M_sha_366 (by decide) ?_
    obtain ⟨v27, hc, hf⟩ := bdp1 hf
    refine q_ai (wr := [(o, .inr (12, mo q z)), ((q 34), .inl (cy 1, 8, .inl u0)), ((q 35), .inl (cy 1, 64, .inl u1)), ((q 36), .inl (cy 0, 32, .inl u2)), ((q 37), .inl (cy 0, 100200, .inl u3))]) (va_runS (As := [.int x11, .int (11 : Int32)]) (rest := [.int v26, .int x14]) ⟨hx, hb, hml, hown, hts⟩ (c_M_turn l D cy ad fu x11 (11 : Int32) _ hc H.size) ⟨q_cB hts gw_1774 gw_18 gw_1772 hdm_0 ⟨by decide, by decide⟩, hts _ gw_1773⟩ (q_pre (hP.sub [] rfl) (hD.sub [] (by decide) rfl) hK hSt hS (va_free hD hS hA [] rfl) _) rfl rfl hl.1 rfl (lv_room (Nat.le_of_ble_eq_true rfl)) d_M_sha_368 ⟨Nat.le_of_ble_eq_true rfl, Nat.le_of_ble_eq_true rfl⟩) hP hD hS hA [] [0, 1, 2, 3, 4] rfl rfl (by decide) (by decide) (fun H locs hP hD hS => ?_)
    clear hc
    have hP : va_P D classes [(o, .inr (12, mo q z)), ((q 34), .inl (cy 1, 8, .inl u0)), ((q 35), .inl (cy 1, 64, .inl u1)), ((q 36), .inl (cy 0, 32, .inl u2)), ((q 37), .inl (cy 0, 100200, .inl u3))] H := hP
    have hD : va_D A [(o, .inr (12, mo q z)), ((q 34), .inl (cy 1, 8, .inl u0)), ((q 35), .inl (cy 1, 64, .inl u1)), ((q 36), .inl (cy 0, 32, .inl u2)), ((q 37), .inl (cy 0, 100200, .inl u3))] := hD
    refine lv_ixor hx hb d_M_sha_371 ?_
    refine lv_topi (fun v28 ev => ?_)
    have hf := bn ev hf
    clear ev
    refine lv_iload hx hb d_M_sha_372 (lv_at hl 7 rfl) ?_
    refine lv_bipush (v := 25) hx hb d_M_sha_374 (by decide) ?_
    obtain ⟨v29, hc, hf⟩ := bdp1 hf
    refine q_ai (wr := [(o, .inr (12, mo q z)), ((q 34), .inl (cy 1, 8, .inl u0)), ((q 35), .inl (cy 1, 64, .inl u1)), ((q 36), .inl (cy 0, 32, .inl u2)), ((q 37), .inl (cy 0, 100200, .inl u3))]) (va_runS (As := [.int x11, .int (25 : Int32)]) (rest := [.int v28, .int x14]) ⟨hx, hb, hml, hown, hts⟩ (c_M_turn l D cy ad fu x11 (25 : Int32) _ hc H.size) ⟨q_cB hts gw_1774 gw_18 gw_1772 hdm_0 ⟨by decide, by decide⟩, hts _ gw_1773⟩ (q_pre (hP.sub [] rfl) (hD.sub [] (by decide) rfl) hK hSt hS (va_free hD hS hA [] rfl) _) rfl rfl hl.1 rfl (lv_room (Nat.le_of_ble_eq_true rfl)) d_M_sha_376 ⟨Nat.le_of_ble_eq_true rfl, Nat.le_of_ble_eq_true rfl⟩) hP hD hS hA [] [0, 1, 2, 3, 4] rfl rfl (by decide) (by decide) (fun H locs hP hD hS => ?_)
    clear hc
    have hP : va_P D classes [(o, .inr (12, mo q z)), ((q 34), .inl (cy 1, 8, .inl u0)), ((q 35), .inl (cy 1, 64, .inl u1)), ((q 36), .inl (cy 0, 32, .inl u2)), ((q 37), .inl (cy 0, 100200, .inl u3))] H := hP
    have hD : va_D A [(o, .inr (12, mo q z)), ((q 34), .inl (cy 1, 8, .inl u0)), ((q 35), .inl (cy 1, 64, .inl u1)), ((q 36), .inl (cy 0, 32, .inl u2)), ((q 37), .inl (cy 0, 100200, .inl u3))] := hD
    refine lv_ixor hx hb d_M_sha_379 ?_
    refine lv_iadd hx hb d_M_sha_380 ?_
    refine lv_topi (fun v30 ev => ?_)
    have hf := bn ev hf
    clear ev
    refine lv_iload hx hb d_M_sha_381 (lv_at hl 7 rfl) ?_
    refine lv_iload hx hb d_M_sha_383 (lv_at hl 8 rfl) ?_
    refine lv_iand hx hb d_M_sha_385 ?_
    refine lv_topi (fun v31 ev => ?_)
    have hf := bn ev hf
    clear ev
    refine lv_iload hx hb d_M_sha_386 (lv_at hl 7 rfl) ?_
    refine lv_iconst (v := (-1)) hx hb d_M_sha_388 (by decide) ?_
    refine lv_ixor hx hb d_M_sha_389 ?_
    refine lv_topi (fun v32 ev => ?_)
    have hf := bn ev hf
    clear ev
    refine lv_iload hx hb d_M_sha_390 (lv_at hl 9 rfl) ?_
    refine lv_iand hx hb d_M_sha_392 ?_
    refine lv_ixor hx hb d_M_sha_393 ?_
    refine lv_iadd hx hb d_M_sha_394 ?_
    refine lv_topi (fun v33 ev => ?_)
    have hf := bn ev hf
    clear ev
    refine va_gets hx hb (hSt.1 15 _ rfl).1 hS hown (hts _ gw_1775) (fun _ h9 => h9) d_M_sha_395 ?_
    refine lv_iload hx hb d_M_sha_398 (lv_at hl 11 rfl) ?_
    obtain ⟨hg, hf⟩ := gdp hf
    refine va_ti (v := .int (tb_15.getD x15.toNatClampNeg 0)) hx hb (hSt.1 15 _ rfl).2 hS (inb_in hg) rfl d_M_sha_400 ?_
    refine lv_topi (fun v34 ev => ?_)
    have hf := bn ev hf
    clear ev
    refine lv_iadd hx hb d_M_sha_401 ?_
    refine lv_topi (fun v35 ev => ?_)
    have hf := bn ev hf
    clear ev
    refine lv_aload_n hx hb d_M_sha_402 rfl (lv_at hl 0 rfl) ?_
    refine va_get (D := D) (ci := 12) (v := .ref (q 35)) (C := "CoinKeeperModel") (T := F_12) (N := 98) hx hb hts i_12 hown hK hP 0 rfl rfl 43 (by decide) (hts _ gw_1462) (fun _ h9 => h9) rfl d_M_sha_403 ?_
    refine lv_iload hx hb d_M_sha_406 (lv_at hl 11 rfl) ?_
    obtain ⟨hg, hf⟩ := gdp hf
    refine va_iald hx hb hK hP 2 1 rfl rfl (inb_in hg) d_M_sha_408 ?_
    refine lv_topi (fun v36 ev => ?_)
    have hf := bn ev hf
    clear ev
    refine lv_iadd hx hb d_M_sha_409 ?_
    refine lv_topi (fun v37 ev => ?_)
    have hf := bn ev hf
    clear ev
    refine lv_istore (lv' := [(16, .int v37), (0, .ref o), (4, .int x4), (6, .int x6), (7, .int x7), (8, .int x8), (9, .int x9), (10, .int x10), (11, .int x11), (12, .int x12), (13, .int x13), (14, .int x14), (15, .int x15)]) hx hb d_M_sha_410 hl (by decide) rfl (fun ls hl => ?_)
    refine lv_iload hx hb d_M_sha_412 (lv_at hl 4 rfl) ?_
    refine lv_iconst (v := 2) hx hb d_M_sha_414 (by decide) ?_
    obtain ⟨v38, hc, hf⟩ := bdp1 hf
    refine q_ai (wr := [(o, .inr (12, mo q z)), ((q 34), .inl (cy 1, 8, .inl u0)), ((q 35), .inl (cy 1, 64, .inl u1)), ((q 36), .inl (cy 0, 32, .inl u2)), ((q 37), .inl (cy 0, 100200, .inl u3))]) (va_runS (As := [.int x7, .int (2 : Int32)]) (rest := []) ⟨hx, hb, hml, hown, hts⟩ (c_M_turn l D cy ad fu x7 (2 : Int32) _ hc H.size) ⟨q_cB hts gw_1774 gw_18 gw_1772 hdm_0 ⟨by decide, by decide⟩, hts _ gw_1773⟩ (q_pre (hP.sub [] rfl) (hD.sub [] (by decide) rfl) hK hSt hS (va_free hD hS hA [] rfl) _) rfl rfl hl.1 rfl (lv_room (Nat.le_of_ble_eq_true rfl)) d_M_sha_415 ⟨Nat.le_of_ble_eq_true rfl, Nat.le_of_ble_eq_true rfl⟩) hP hD hS hA [] [0, 1, 2, 3, 4] rfl rfl (by decide) (by decide) (fun H locs hP hD hS => ?_)
    clear hc
    have hP : va_P D classes [(o, .inr (12, mo q z)), ((q 34), .inl (cy 1, 8, .inl u0)), ((q 35), .inl (cy 1, 64, .inl u1)), ((q 36), .inl (cy 0, 32, .inl u2)), ((q 37), .inl (cy 0, 100200, .inl u3))] H := hP
    have hD : va_D A [(o, .inr (12, mo q z)), ((q 34), .inl (cy 1, 8, .inl u0)), ((q 35), .inl (cy 1, 64, .inl u1)), ((q 36), .inl (cy 0, 32, .inl u2)), ((q 37), .inl (cy 0, 100200, .inl u3))] := hD
    refine lv_iload hx hb d_M_sha_418 (lv_at hl 4 rfl) ?_
    refine lv_bipush (v := 13) hx hb d_M_sha_420 (by decide) ?_
    obtain ⟨v39, hc, hf⟩ := bdp1 hf
    refine q_ai (wr := [(o, .inr (12, mo q z)), ((q 34), .inl (cy 1, 8, .inl u0)), ((q 35), .inl (cy 1, 64, .inl u1)), ((q 36), .inl (cy 0, 32, .inl u2)), ((q 37), .inl (cy 0, 100200, .inl u3))]) (va_runS (As := [.int x7, .int (13 : Int32)]) (rest := [.int v38]) ⟨hx, hb, hml, hown, hts⟩ (c_M_turn l D cy ad fu x7 (13 : Int32) _ hc H.size) ⟨q_cB hts gw_1774 gw_18 gw_1772 hdm_0 ⟨by decide, by decide⟩, hts _ gw_1773⟩ (q_pre (hP.sub [] rfl) (hD.sub [] (by decide) rfl) hK hSt hS (va_free hD hS hA [] rfl) _) rfl rfl hl.1 rfl (lv_room (Nat.le_of_ble_eq_true rfl)) d_M_sha_422 ⟨Nat.le_of_ble_eq_true rfl, Nat.le_of_ble_eq_true rfl⟩) hP hD hS hA [] [0, 1, 2, 3, 4] rfl rfl (by decide) (by decide) (fun H locs hP hD hS => ?_)
    clear hc
    have hP : va_P D classes [(o, .inr (12, mo q z)), ((q 34), .inl (cy 1, 8, .inl u0)), ((q 35), .inl (cy 1, 64, .inl u1)), ((q 36), .inl (cy 0, 32, .inl u2)), ((q 37), .inl (cy 0, 100200, .inl u3))] H := hP
    have hD : va_D A [(o, .inr (12, mo q z)), ((q 34), .inl (cy 1, 8, .inl u0)), ((q 35), .inl (cy 1, 64, .inl u1)), ((q 36), .inl (cy 0, 32, .inl u2)), ((q 37), .inl (cy 0, 100200, .inl u3))] := hD
    refine lv_ixor hx hb d_M_sha_425 ?_
    refine lv_topi (fun v40 ev => ?_)
    have hf := bn ev hf
    clear ev
    refine lv_iload hx hb d_M_sha_426 (lv_at hl 4 rfl) ?_
    refine lv_bipush (v := 22) hx hb d_M_sha_428 (by decide) ?_
    obtain ⟨v41, hc, hf⟩ := bdp1 hf
    refine q_ai (wr := [(o, .inr (12, mo q z)), ((q 34), .inl (cy 1, 8, .inl u0)), ((q 35), .inl (cy 1, 64, .inl u1)), ((q 36), .inl (cy 0, 32, .inl u2)), ((q 37), .inl (cy 0, 100200, .inl u3))]) (va_runS (As := [.int x7, .int (22 : Int32)]) (rest := [.int v40]) ⟨hx, hb, hml, hown, hts⟩ (c_M_turn l D cy ad fu x7 (22 : Int32) _ hc H.size) ⟨q_cB hts gw_1774 gw_18 gw_1772 hdm_0 ⟨by decide, by decide⟩, hts _ gw_1773⟩ (q_pre (hP.sub [] rfl) (hD.sub [] (by decide) rfl) hK hSt hS (va_free hD hS hA [] rfl) _) rfl rfl hl.1 rfl (lv_room (Nat.le_of_ble_eq_true rfl)) d_M_sha_430 ⟨Nat.le_of_ble_eq_true rfl, Nat.le_of_ble_eq_true rfl⟩) hP hD hS hA [] [0, 1, 2, 3, 4] rfl rfl (by decide) (by decide) (fun H locs hP hD hS => ?_)
    clear hc
    have hP : va_P D classes [(o, .inr (12, mo q z)), ((q 34), .inl (cy 1, 8, .inl u0)), ((q 35), .inl (cy 1, 64, .inl u1)), ((q 36), .inl (cy 0, 32, .inl u2)), ((q 37), .inl (cy 0, 100200, .inl u3))] H := hP
    have hD : va_D A [(o, .inr (12, mo q z)), ((q 34), .inl (cy 1, 8, .inl u0)), ((q 35), .inl (cy 1, 64, .inl u1)), ((q 36), .inl (cy 0, 32, .inl u2)), ((q 37), .inl (cy 0, 100200, .inl u3))] := hD
    refine lv_ixor hx hb d_M_sha_433 ?_
    refine lv_topi (fun v42 ev => ?_)
    have hf := bn ev hf
    clear ev
    refine lv_iload hx hb d_M_sha_434 (lv_at hl 4 rfl) ?_
    refine lv_iload hx hb d_M_sha_436 (lv_at hl 5 rfl) ?_
    refine lv_iand hx hb d_M_sha_438 ?_
    refine lv_topi (fun v43 ev => ?_)
    have hf := bn ev hf
    clear ev
    refine lv_iload hx hb d_M_sha_439 (lv_at hl 4 rfl) ?_
    refine lv_iload hx hb d_M_sha_441 (lv_at hl 6 rfl) ?_
    refine lv_iand hx hb d_M_sha_443 ?_
    refine lv_ixor hx hb d_M_sha_444 ?_
    refine lv_topi (fun v44 ev => ?_)
    have hf := bn ev hf
    clear ev
    refine lv_iload hx hb d_M_sha_445 (lv_at hl 5 rfl) ?_
    refine lv_iload hx hb d_M_sha_447 (lv_at hl 6 rfl) ?_
    refine lv_iand hx hb d_M_sha_449 ?_
    refine lv_ixor hx hb d_M_sha_450 ?_
    refine lv_iadd hx hb d_M_sha_451 ?_
    refine lv_topi (fun v45 ev => ?_)
    have hf := bn ev hf
    clear ev
    refine lv_istore (lv' := [(17, .int v45), (16, .int v37), (0, .ref o), (4, .int x4), (6, .int x6), (7, .int x7), (8, .int x8), (9, .int x9), (10, .int x10), (11, .int x11), (12, .int x12), (13, .int x13), (14, .int x14), (15, .int x15)]) hx hb d_M_sha_452 hl (by decide) rfl (fun ls hl => ?_)
    refine lv_iload hx hb d_M_sha_454 (lv_at hl 11 rfl) ?_
    refine lv_istore (lv' := [(14, .int x13), (17, .int v45), (16, .int v37), (0, .ref o), (4, .int x4), (6, .int x6), (7, .int x7), (8, .int x8), (9, .int x9), (10, .int x10), (11, .int x11), (12, .int x12), (13, .int x13), (15, .int x15)]) hx hb d_M_sha_456 hl (by decide) rfl (fun ls hl => ?_)
    refine lv_iload hx hb d_M_sha_458 (lv_at hl 11 rfl) ?_
    refine lv_istore (lv' := [(13, .int x12), (14, .int x13), (17, .int v45), (16, .int v37), (0, .ref o), (4, .int x4), (6, .int x6), (7, .int x7), (8, .int x8), (9, .int x9), (10, .int x10), (11, .int x11), (12, .int x12), (15, .int x15)]) hx hb d_M_sha_460 hl (by decide) rfl (fun ls hl => ?_)
    refine lv_iload hx hb d_M_sha_462 (lv_at hl 11 rfl) ?_
    refine lv_istore (lv' := [(12, .int x11), (13, .int x12), (14, .int x13), (17, .int v45), (16, .int v37), (0, .ref o), (4, .int x4), (6, .int x6), (7, .int x7), (8, .int x8), (9, .int x9), (10, .int x10), (11, .int x11), (15, .int x15)]) hx hb d_M_sha_464 hl (by decide) rfl (fun ls hl => ?_)
    refine lv_iload hx hb d_M_sha_466 (lv_at hl 11 rfl) ?_
    refine lv_iload hx hb d_M_sha_468 (lv_at hl 4 rfl) ?_
    refine lv_iadd hx hb d_M_sha_470 ?_
    refine lv_topi (fun v46 ev => ?_)
    have hf := bn ev hf
    clear ev
    refine lv_istore (lv' := [(11, .int v46), (12, .int x11), (13, .int x12), (14, .int x13), (17, .int v45), (16, .int v37), (0, .ref o), (4, .int x4), (6, .int x6), (7, .int x7), (8, .int x8), (9, .int x9), (10, .int x10), (15, .int x15)]) hx hb d_M_sha_471 hl (by decide) rfl (fun ls hl => ?_)
    refine lv_iload hx hb d_M_sha_473 (lv_at hl 11 rfl) ?_
    refine lv_istore (lv' := [(10, .int x9), (11, .int v46), (12, .int x11), (13, .int x12), (14, .int x13), (17, .int v45), (16, .int v37), (0, .ref o), (4, .int x4), (6, .int x6), (7, .int x7), (8, .int x8), (9, .int x9), (15, .int x15)]) hx hb d_M_sha_475 hl (by decide) rfl (fun ls hl => ?_)
    refine lv_iload hx hb d_M_sha_477 (lv_at hl 11 rfl) ?_
    refine lv_istore (lv' := [(9, .int x8), (10, .int x9), (11, .int v46), (12, .int x11), (13, .int x12), (14, .int x13), (17, .int v45), (16, .int v37), (0, .ref o), (4, .int x4), (6, .int x6), (7, .int x7), (8, .int x8), (15, .int x15)]) hx hb d_M_sha_479 hl (by decide) rfl (fun ls hl => ?_)
    refine lv_iload hx hb d_M_sha_481 (lv_at hl 11 rfl) ?_
    refine lv_istore (lv' := [(8, .int x7), (9, .int x8), (10, .int x9), (11, .int v46), (12, .int x11), (13, .int x12), (14, .int x13), (17, .int v45), (16, .int v37), (0, .ref o), (4, .int x4), (6, .int x6), (7, .int x7), (15, .int x15)]) hx hb d_M_sha_483 hl (by decide) rfl (fun ls hl => ?_)
    refine lv_iload hx hb d_M_sha_485 (lv_at hl 8 rfl) ?_
    refine lv_iload hx hb d_M_sha_487 (lv_at hl 7 rfl) ?_
    refine lv_iadd hx hb d_M_sha_489 ?_
    refine lv_topi (fun v47 ev => ?_)
    have hf := bn ev hf
    clear ev
    refine lv_istore (lv' := [(7, .int v47), (8, .int x7), (9, .int x8), (10, .int x9), (11, .int v46), (12, .int x11), (13, .int x12), (14, .int x13), (17, .int v45), (16, .int v37), (0, .ref o), (4, .int x4), (6, .int x6), (15, .int x15)]) hx hb d_M_sha_490 hl (by decide) rfl (fun ls hl => ?_)
    obtain ⟨v48, ev, hf⟩ := bne hf
    refine lv_iinc (v := v48) (lv' := [(15, .int v48), (7, .int v47), (8, .int x7), (9, .int x8), (10, .int x9), (11, .int v46), (12, .int x11), (13, .int x12), (14, .int x13), (17, .int v45), (16, .int v37), (0, .ref o), (4, .int x4), (6, .int x6)]) hx hb d_M_sha_492 hl (k := 13) rfl (by rw [ev]; rfl) (by decide) rfl (fun ls hl => ?_)
    clear ev
    refine lv_goto (tgt := 348) hx hb d_M_sha_495 (by decide) ?_
    exact hk_348 _ _ _ _ _ _ _ _ _ _ _ _ _ _ _ _ hf _ _ _ hP hD hS (lv_sub hl [11, 12, 13, 1, 2, 3, 4, 5, 6, 7, 8, 0] rfl)
theorem w_M_sha_f1hash_348 {p : Program} {l : Launch} {e : Env} {s : State} {m : MethodId} {args : Array Value} {below : List Frame} {meth : Method} {c : Code} {D : va_G} {cy : Nat → ClassId} {A : Nat → Prop} {ad : Nat → Nat} {o : Nat} {q : Nat → Nat} {z : Nat → Int32} {fu : Nat} {k_121 : Int32 → Int32 → (Nat → Int32) → (Nat → Int32) → (Nat → Int32) → (Nat → Int32) → Option ((Nat → Int32) × (Nat → Int32) × (Nat → Int32) × (Nat → Int32))} (F : Fx p s m args meth c b_M_sha 18 "CoinKeeperModel" "sha" none D cy ad A) (hk_121 : I_M_sha_f1hash_121 p l e s m args below meth c D cy A ad o q z k_121) : ∀ n : Nat, I_M_sha_f1hash_348 p l e s m args below meth c D cy A ad o q z (x_M_sha_f1hash_348 fu z k_121 n)
  | 0 => fun _ _ _ _ _ _ _ _ _ _ _ _ _ _ _ _ hf => nomatch (show (none : Option ((Nat → Int32) × (Nat → Int32) × (Nat → Int32) × (Nat → Int32))) = some _ from hf)
  | n + 1 => wb_M_sha_f1hash_348 F hk_121 (w_M_sha_f1hash_348 F hk_121 n)
set_option maxHeartbeats 8000000 in
set_option maxRecDepth 100000 in
theorem wb_M_sha_f1hash_172 {p : Program} {l : Launch} {e : Env} {s : State} {m : MethodId} {args : Array Value} {below : List Frame} {meth : Method} {c : Code} {D : va_G} {cy : Nat → ClassId} {A : Nat → Prop} {ad : Nat → Nat} {o : Nat} {q : Nat → Nat} {z : Nat → Int32} {fu : Nat} {k_121 : Int32 → Int32 → (Nat → Int32) → (Nat → Int32) → (Nat → Int32) → (Nat → Int32) → Option ((Nat → Int32) × (Nat → Int32) × (Nat → Int32) × (Nat → Int32))} {k_172 : Int32 → Int32 → Int32 → (Nat → Int32) → (Nat → Int32) → (Nat → Int32) → (Nat → Int32) → Option ((Nat → Int32) × (Nat → Int32) × (Nat → Int32) × (Nat → Int32))} (F : Fx p s m args meth c b_M_sha 18 "CoinKeeperModel" "sha" none D cy ad A) (hk_121 : I_M_sha_f1hash_121 p l e s m args below meth c D cy A ad o q z k_121) (hk_172 : I_M_sha_f1hash_172 p l e s m args below meth c D cy A ad o q z k_172) : I_M_sha_f1hash_172 p l e s m args below meth c D cy A ad o q z (xb_M_sha_f1hash_172 fu z k_121 k_172) := by
  obtain ⟨hx, hb, hr, hml, hown, hts, hlocks, hK, hA, hSt, hnm, hex⟩ := id F
  intro x4 x6 x7 u0 u1 u2 u3 res hf H locs ls hP hD hS hl
  unfold xb_M_sha_f1hash_172 at hf
  refine lv_iload hx hb d_M_sha_172 (lv_at hl 3 rfl) ?_
  refine lv_bipush (v := 64) hx hb d_M_sha_174 (by decide) ?_
  refine lv_icmp_ge (tgt := 279) hx hb d_M_sha_176 (by decide) (fun cx => ?_) (fun cx => ?_)
  · have hf := ifp cx hf
    refine lv_aload_n hx hb d_M_sha_279 rfl (lv_at hl 0 rfl) ?_
    refine va_get (D := D) (ci := 12) (v := .ref (q 34)) (C := "CoinKeeperModel") (T := F_12) (N := 98) hx hb hts i_12 hown hK hP 0 rfl rfl 42 (by decide) (hts _ gw_1461) (fun _ h9 => h9) rfl d_M_sha_280 ?_
    refine lv_iconst (v := 0) hx hb d_M_sha_283 (by decide) ?_
    refine va_iald hx hb hK hP 1 1 rfl rfl (inb_in (by decide)) d_M_sha_284 ?_
    refine lv_topi (fun v1 ev => ?_)
    have hf := bn ev hf
    clear ev
    refine lv_istore (lv' := [(7, .int v1), (0, .ref o), (4, .int x4), (6, .int x6)]) hx hb d_M_sha_285 hl (by decide) rfl (fun ls hl => ?_)
    refine lv_aload_n hx hb d_M_sha_287 rfl (lv_at hl 1 rfl) ?_
    refine va_get (D := D) (ci := 12) (v := .ref (q 34)) (C := "CoinKeeperModel") (T := F_12) (N := 98) hx hb hts i_12 hown hK hP 0 rfl rfl 42 (by decide) (hts _ gw_1461) (fun _ h9 => h9) rfl d_M_sha_288 ?_
    refine lv_iconst (v := 1) hx hb d_M_sha_291 (by decide) ?_
    refine va_iald hx hb hK hP 1 1 rfl rfl (inb_in (by decide)) d_M_sha_292 ?_
    refine lv_topi (fun v2 ev => ?_)
    have hf := bn ev hf
    clear ev
    refine lv_istore (lv' := [(8, .int v2), (7, .int v1), (0, .ref o), (4, .int x4), (6, .int x6)]) hx hb d_M_sha_293 hl (by decide) rfl (fun ls hl => ?_)
    refine lv_aload_n hx hb d_M_sha_295 rfl (lv_at hl 2 rfl) ?_
    refine va_get (D := D) (ci := 12) (v := .ref (q 34)) (C := "CoinKeeperModel") (T := F_12) (N := 98) hx hb hts i_12 hown hK hP 0 rfl rfl 42 (by decide) (hts _ gw_1461) (fun _ h9 => h9) rfl d_M_sha_296 ?_
    refine lv_iconst (v := 2) hx hb d_M_sha_299 (by decide) ?_
    refine va_iald hx hb hK hP 1 1 rfl rfl (inb_in (by decide)) d_M_sha_300 ?_
    refine lv_topi (fun v3 ev => ?_)
    have hf := bn ev hf
    clear ev
    refine lv_istore (lv' := [(9, .int v3), (8, .int v2), (7, .int v1), (0, .ref o), (4, .int x4), (6, .int x6)]) hx hb d_M_sha_301 hl (by decide) rfl (fun ls hl => ?_)
    refine lv_aload_n hx hb d_M_sha_303 rfl (lv_at hl 3 rfl) ?_
    refine va_get (D := D) (ci := 12) (v := .ref (q 34)) (C := "CoinKeeperModel") (T := F_12) (N := 98) hx hb hts i_12 hown hK hP 0 rfl rfl 42 (by decide) (hts _ gw_1461) (fun _ h9 => h9) rfl d_M_sha_304 ?_
    refine lv_iconst (v := 3) hx hb d_M_sha_307 (by decide) ?_
    refine va_iald hx hb hK hP 1 1 rfl rfl (inb_in (by decide)) d_M_sha_308 ?_
    refine lv_topi (fun v4 ev => ?_)
    have hf := bn ev hf
    clear ev
    refine lv_istore (lv' := [(10, .int v4), (9, .int v3), (8, .int v2), (7, .int v1), (0, .ref o), (4, .int x4), (6, .int x6)]) hx hb d_M_sha_309 hl (by decide) rfl (fun ls hl => ?_)
    refine lv_aload_n hx hb d_M_sha_311 rfl (lv_at hl 4 rfl) ?_
    refine va_get (D := D) (ci := 12) (v := .ref (q 34)) (C := "CoinKeeperModel") (T := F_12) (N := 98) hx hb hts i_12 hown hK hP 0 rfl rfl 42 (by decide) (hts _ gw_1461) (fun _ h9 => h9) rfl d_M_sha_312 ?_
    refine lv_iconst (v := 4) hx hb d_M_sha_315 (by decide) ?_
    refine va_iald hx hb hK hP 1 1 rfl rfl (inb_in (by decide)) d_M_sha_316 ?_
    refine lv_topi (fun v5 ev => ?_)
    have hf := bn ev hf
    clear ev
    refine lv_istore (lv' := [(11, .int v5), (10, .int v4), (9, .int v3), (8, .int v2), (7, .int v1), (0, .ref o), (4, .int x4), (6, .int x6)]) hx hb d_M_sha_317 hl (by decide) rfl (fun ls hl => ?_)
    refine lv_aload_n hx hb d_M_sha_319 rfl (lv_at hl 5 rfl) ?_
    refine va_get (D := D) (ci := 12) (v := .ref (q 34)) (C := "CoinKeeperModel") (T := F_12) (N := 98) hx hb hts i_12 hown hK hP 0 rfl rfl 42 (by decide) (hts _ gw_1461) (fun _ h9 => h9) rfl d_M_sha_320 ?_
    refine lv_iconst (v := 5) hx hb d_M_sha_323 (by decide) ?_
    refine va_iald hx hb hK hP 1 1 rfl rfl (inb_in (by decide)) d_M_sha_324 ?_
    refine lv_topi (fun v6 ev => ?_)
    have hf := bn ev hf
    clear ev
    refine lv_istore (lv' := [(12, .int v6), (11, .int v5), (10, .int v4), (9, .int v3), (8, .int v2), (7, .int v1), (0, .ref o), (4, .int x4), (6, .int x6)]) hx hb d_M_sha_325 hl (by decide) rfl (fun ls hl => ?_)
    refine lv_aload_n hx hb d_M_sha_327 rfl (lv_at hl 6 rfl) ?_
    refine va_get (D := D) (ci := 12) (v := .ref (q 34)) (C := "CoinKeeperModel") (T := F_12) (N := 98) hx hb hts i_12 hown hK hP 0 rfl rfl 42 (by decide) (hts _ gw_1461) (fun _ h9 => h9) rfl d_M_sha_328 ?_
    refine lv_bipush (v := 6) hx hb d_M_sha_331 (by decide) ?_
    refine va_iald hx hb hK hP 1 1 rfl rfl (inb_in (by decide)) d_M_sha_333 ?_
    refine lv_topi (fun v7 ev => ?_)
    have hf := bn ev hf
    clear ev
    refine lv_istore (lv' := [(13, .int v7), (12, .int v6), (11, .int v5), (10, .int v4), (9, .int v3), (8, .int v2), (7, .int v1), (0, .ref o), (4, .int x4), (6, .int x6)]) hx hb d_M_sha_334 hl (by decide) rfl (fun ls hl => ?_)
    refine lv_aload_n hx hb d_M_sha_336 rfl (lv_at hl 7 rfl) ?_
    refine va_get (D := D) (ci := 12) (v := .ref (q 34)) (C := "CoinKeeperModel") (T := F_12) (N := 98) hx hb hts i_12 hown hK hP 0 rfl rfl 42 (by decide) (hts _ gw_1461) (fun _ h9 => h9) rfl d_M_sha_337 ?_
    refine lv_bipush (v := 7) hx hb d_M_sha_340 (by decide) ?_
    refine va_iald hx hb hK hP 1 1 rfl rfl (inb_in (by decide)) d_M_sha_342 ?_
    refine lv_topi (fun v8 ev => ?_)
    have hf := bn ev hf
    clear ev
    refine lv_istore (lv' := [(14, .int v8), (13, .int v7), (12, .int v6), (11, .int v5), (10, .int v4), (9, .int v3), (8, .int v2), (7, .int v1), (0, .ref o), (4, .int x4), (6, .int x6)]) hx hb d_M_sha_343 hl (by decide) rfl (fun ls hl => ?_)
    refine lv_iconst (v := 0) hx hb d_M_sha_345 (by decide) ?_
    refine lv_istore (lv' := [(15, .int (0 : Int32)), (14, .int v8), (13, .int v7), (12, .int v6), (11, .int v5), (10, .int v4), (9, .int v3), (8, .int v2), (7, .int v1), (0, .ref o), (4, .int x4), (6, .int x6)]) hx hb d_M_sha_346 hl (by decide) rfl (fun ls hl => ?_)
    exact w_M_sha_f1hash_348 F hk_121 fu _ _ _ _ _ _ _ _ _ _ _ _ _ _ _ _ hf _ _ _ hP hD hS (lv_sub hl [9, 10, 11, 8, 7, 6, 5, 4, 3, 2, 1, 0] rfl)
  · have hf := ifn cx hf
    refine lv_aload_n hx hb d_M_sha_179 rfl (lv_at hl 0 rfl) ?_
    refine va_get (D := D) (ci := 12) (v := .ref (q 35)) (C := "CoinKeeperModel") (T := F_12) (N := 98) hx hb hts i_12 hown hK hP 0 rfl rfl 43 (by decide) (hts _ gw_1462) (fun _ h9 => h9) rfl d_M_sha_180 ?_
    refine lv_iload hx hb d_M_sha_183 (lv_at hl 3 rfl) ?_
    refine lv_bipush (v := 15) hx hb d_M_sha_185 (by decide) ?_
    refine lv_isub hx hb d_M_sha_187 ?_
    refine lv_topi (fun v9 ev => ?_)
    have hf := bn ev hf
    clear ev
    obtain ⟨hg, hf⟩ := gdp hf
    refine va_iald hx hb hK hP 2 1 rfl rfl (inb_in hg) d_M_sha_188 ?_
    refine lv_topi (fun v10 ev => ?_)
    have hf := bn ev hf
    clear ev
    refine lv_istore (lv' := [(8, .int v10), (0, .ref o), (4, .int x4), (6, .int x6), (7, .int x7)]) hx hb d_M_sha_189 hl (by decide) rfl (fun ls hl => ?_)
    refine lv_aload_n hx hb d_M_sha_191 rfl (lv_at hl 1 rfl) ?_
    refine va_get (D := D) (ci := 12) (v := .ref (q 35)) (C := "CoinKeeperModel") (T := F_12) (N := 98) hx hb hts i_12 hown hK hP 0 rfl rfl 43 (by decide) (hts _ gw_1462) (fun _ h9 => h9) rfl d_M_sha_192 ?_
    refine lv_iload hx hb d_M_sha_195 (lv_at hl 4 rfl) ?_
    refine lv_iconst (v := 2) hx hb d_M_sha_197 (by decide) ?_
    refine lv_isub hx hb d_M_sha_198 ?_
    refine lv_topi (fun v11 ev => ?_)
    have hf := bn ev hf
    clear ev
    obtain ⟨hg, hf⟩ := gdp hf
    refine va_iald hx hb hK hP 2 1 rfl rfl (inb_in hg) d_M_sha_199 ?_
    refine lv_topi (fun v12 ev => ?_)
    have hf := bn ev hf
    clear ev
    refine lv_istore (lv' := [(9, .int v12), (8, .int v10), (0, .ref o), (4, .int x4), (6, .int x6), (7, .int x7)]) hx hb d_M_sha_200 hl (by decide) rfl (fun ls hl => ?_)
    refine lv_aload_n hx hb d_M_sha_202 rfl (lv_at hl 2 rfl) ?_
    refine va_get (D := D) (ci := 12) (v := .ref (q 35)) (C := "CoinKeeperModel") (T := F_12) (N := 98) hx hb hts i_12 hown hK hP 0 rfl rfl 43 (by decide) (hts _ gw_1462) (fun _ h9 => h9) rfl d_M_sha_203 ?_
    refine lv_iload hx hb d_M_sha_206 (lv_at hl 5 rfl) ?_
    refine lv_aload_n hx hb d_M_sha_208 rfl (lv_at hl 2 rfl) ?_
    refine va_get (D := D) (ci := 12) (v := .ref (q 35)) (C := "CoinKeeperModel") (T := F_12) (N := 98) hx hb hts i_12 hown hK hP 0 rfl rfl 43 (by decide) (hts _ gw_1462) (fun _ h9 => h9) rfl d_M_sha_209 ?_
    refine lv_iload hx hb d_M_sha_212 (lv_at hl 5 rfl) ?_
    refine lv_bipush (v := 16) hx hb d_M_sha_214 (by decide) ?_
    refine lv_isub hx hb d_M_sha_216 ?_
    refine lv_topi (fun v13 ev => ?_)
    have hf := bn ev hf
    clear ev
    obtain ⟨hg, hf⟩ := gdp hf
    refine va_iald hx hb hK hP 2 1 rfl rfl (inb_in hg) d_M_sha_217 ?_
    refine lv_topi (fun v14 ev => ?_)
    have hf := bn ev hf
    clear ev
    refine lv_iload hx hb d_M_sha_218 (lv_at hl 1 rfl) ?_
    refine lv_bipush (v := 7) hx hb d_M_sha_220 (by decide) ?_
    obtain ⟨v15, hc, hf⟩ := bdp1 hf
    refine q_ai (wr := [(o, .inr (12, mo q z)), ((q 34), .inl (cy 1, 8, .inl u0)), ((q 35), .inl (cy 1, 64, .inl u1)), ((q 36), .inl (cy 0, 32, .inl u2)), ((q 37), .inl (cy 0, 100200, .inl u3))]) (va_runS (As := [.int v10, .int (7 : Int32)]) (rest := [.int v14, .int x7, .ref (q 35)]) ⟨hx, hb, hml, hown, hts⟩ (c_M_turn l D cy ad fu v10 (7 : Int32) _ hc H.size) ⟨q_cB hts gw_1774 gw_18 gw_1772 hdm_0 ⟨by decide, by decide⟩, hts _ gw_1773⟩ (q_pre (hP.sub [] rfl) (hD.sub [] (by decide) rfl) hK hSt hS (va_free hD hS hA [] rfl) _) rfl rfl hl.1 rfl (lv_room (Nat.le_of_ble_eq_true rfl)) d_M_sha_222 ⟨Nat.le_of_ble_eq_true rfl, Nat.le_of_ble_eq_true rfl⟩) hP hD hS hA [] [0, 1, 2, 3, 4] rfl rfl (by decide) (by decide) (fun H locs hP hD hS => ?_)
    clear hc
    have hP : va_P D classes [(o, .inr (12, mo q z)), ((q 34), .inl (cy 1, 8, .inl u0)), ((q 35), .inl (cy 1, 64, .inl u1)), ((q 36), .inl (cy 0, 32, .inl u2)), ((q 37), .inl (cy 0, 100200, .inl u3))] H := hP
    have hD : va_D A [(o, .inr (12, mo q z)), ((q 34), .inl (cy 1, 8, .inl u0)), ((q 35), .inl (cy 1, 64, .inl u1)), ((q 36), .inl (cy 0, 32, .inl u2)), ((q 37), .inl (cy 0, 100200, .inl u3))] := hD
    refine lv_iload hx hb d_M_sha_225 (lv_at hl 1 rfl) ?_
    refine lv_bipush (v := 18) hx hb d_M_sha_227 (by decide) ?_
    obtain ⟨v16, hc, hf⟩ := bdp1 hf
    refine q_ai (wr := [(o, .inr (12, mo q z)), ((q 34), .inl (cy 1, 8, .inl u0)), ((q 35), .inl (cy 1, 64, .inl u1)), ((q 36), .inl (cy 0, 32, .inl u2)), ((q 37), .inl (cy 0, 100200, .inl u3))]) (va_runS (As := [.int v10, .int (18 : Int32)]) (rest := [.int v15, .int v14, .int x7, .ref (q 35)]) ⟨hx, hb, hml, hown, hts⟩ (c_M_turn l D cy ad fu v10 (18 : Int32) _ hc H.size) ⟨q_cB hts gw_1774 gw_18 gw_1772 hdm_0 ⟨by decide, by decide⟩, hts _ gw_1773⟩ (q_pre (hP.sub [] rfl) (hD.sub [] (by decide) rfl) hK hSt hS (va_free hD hS hA [] rfl) _) rfl rfl hl.1 rfl (lv_room (Nat.le_of_ble_eq_true rfl)) d_M_sha_229 ⟨Nat.le_of_ble_eq_true rfl, Nat.le_of_ble_eq_true rfl⟩) hP hD hS hA [] [0, 1, 2, 3, 4] rfl rfl (by decide) (by decide) (fun H locs hP hD hS => ?_)
    clear hc
    have hP : va_P D classes [(o, .inr (12, mo q z)), ((q 34), .inl (cy 1, 8, .inl u0)), ((q 35), .inl (cy 1, 64, .inl u1)), ((q 36), .inl (cy 0, 32, .inl u2)), ((q 37), .inl (cy 0, 100200, .inl u3))] H := hP
    have hD : va_D A [(o, .inr (12, mo q z)), ((q 34), .inl (cy 1, 8, .inl u0)), ((q 35), .inl (cy 1, 64, .inl u1)), ((q 36), .inl (cy 0, 32, .inl u2)), ((q 37), .inl (cy 0, 100200, .inl u3))] := hD
    refine lv_ixor hx hb d_M_sha_232 ?_
    refine lv_topi (fun v17 ev => ?_)
    have hf := bn ev hf
    clear ev
    refine lv_iload hx hb d_M_sha_233 (lv_at hl 1 rfl) ?_
    refine lv_iconst (v := 3) hx hb d_M_sha_235 (by decide) ?_
    refine lv_iushr hx hb d_M_sha_236 rfl ?_
    refine lv_ixor hx hb d_M_sha_237 ?_
    refine lv_iadd hx hb d_M_sha_238 ?_
    refine lv_topi (fun v18 ev => ?_)
    have hf := bn ev hf
    clear ev
    refine lv_aload_n hx hb d_M_sha_239 rfl (lv_at hl 2 rfl) ?_
    refine va_get (D := D) (ci := 12) (v := .ref (q 35)) (C := "CoinKeeperModel") (T := F_12) (N := 98) hx hb hts i_12 hown hK hP 0 rfl rfl 43 (by decide) (hts _ gw_1462) (fun _ h9 => h9) rfl d_M_sha_240 ?_
    refine lv_iload hx hb d_M_sha_243 (lv_at hl 5 rfl) ?_
    refine lv_bipush (v := 7) hx hb d_M_sha_245 (by decide) ?_
    refine lv_isub hx hb d_M_sha_247 ?_
    refine lv_topi (fun v19 ev => ?_)
    have hf := bn ev hf
    clear ev
    obtain ⟨hg, hf⟩ := gdp hf
    refine va_iald hx hb hK hP 2 1 rfl rfl (inb_in hg) d_M_sha_248 ?_
    refine lv_topi (fun v20 ev => ?_)
    have hf := bn ev hf
    clear ev
    refine lv_iadd hx hb d_M_sha_249 ?_
    refine lv_topi (fun v21 ev => ?_)
    have hf := bn ev hf
    clear ev
    refine lv_iload hx hb d_M_sha_250 (lv_at hl 0 rfl) ?_
    refine lv_bipush (v := 17) hx hb d_M_sha_252 (by decide) ?_
    obtain ⟨v22, hc, hf⟩ := bdp1 hf
    refine q_ai (wr := [(o, .inr (12, mo q z)), ((q 34), .inl (cy 1, 8, .inl u0)), ((q 35), .inl (cy 1, 64, .inl u1)), ((q 36), .inl (cy 0, 32, .inl u2)), ((q 37), .inl (cy 0, 100200, .inl u3))]) (va_runS (As := [.int v12, .int (17 : Int32)]) (rest := [.int v21, .int x7, .ref (q 35)]) ⟨hx, hb, hml, hown, hts⟩ (c_M_turn l D cy ad fu v12 (17 : Int32) _ hc H.size) ⟨q_cB hts gw_1774 gw_18 gw_1772 hdm_0 ⟨by decide, by decide⟩, hts _ gw_1773⟩ (q_pre (hP.sub [] rfl) (hD.sub [] (by decide) rfl) hK hSt hS (va_free hD hS hA [] rfl) _) rfl rfl hl.1 rfl (lv_room (Nat.le_of_ble_eq_true rfl)) d_M_sha_254 ⟨Nat.le_of_ble_eq_true rfl, Nat.le_of_ble_eq_true rfl⟩) hP hD hS hA [] [0, 1, 2, 3, 4] rfl rfl (by decide) (by decide) (fun H locs hP hD hS => ?_)
    clear hc
    have hP : va_P D classes [(o, .inr (12, mo q z)), ((q 34), .inl (cy 1, 8, .inl u0)), ((q 35), .inl (cy 1, 64, .inl u1)), ((q 36), .inl (cy 0, 32, .inl u2)), ((q 37), .inl (cy 0, 100200, .inl u3))] H := hP
    have hD : va_D A [(o, .inr (12, mo q z)), ((q 34), .inl (cy 1, 8, .inl u0)), ((q 35), .inl (cy 1, 64, .inl u1)), ((q 36), .inl (cy 0, 32, .inl u2)), ((q 37), .inl (cy 0, 100200, .inl u3))] := hD
    refine lv_iload hx hb d_M_sha_257 (lv_at hl 0 rfl) ?_
    refine lv_bipush (v := 19) hx hb d_M_sha_259 (by decide) ?_
    obtain ⟨v23, hc, hf⟩ := bdp1 hf
    refine q_ai (wr := [(o, .inr (12, mo q z)), ((q 34), .inl (cy 1, 8, .inl u0)), ((q 35), .inl (cy 1, 64, .inl u1)), ((q 36), .inl (cy 0, 32, .inl u2)), ((q 37), .inl (cy 0, 100200, .inl u3))]) (va_runS (As := [.int v12, .int (19 : Int32)]) (rest := [.int v22, .int v21, .int x7, .ref (q 35)]) ⟨hx, hb, hml, hown, hts⟩ (c_M_turn l D cy ad fu v12 (19 : Int32) _ hc H.size) ⟨q_cB hts gw_1774 gw_18 gw_1772 hdm_0 ⟨by decide, by decide⟩, hts _ gw_1773⟩ (q_pre (hP.sub [] rfl) (hD.sub [] (by decide) rfl) hK hSt hS (va_free hD hS hA [] rfl) _) rfl rfl hl.1 rfl (lv_room (Nat.le_of_ble_eq_true rfl)) d_M_sha_261 ⟨Nat.le_of_ble_eq_true rfl, Nat.le_of_ble_eq_true rfl⟩) hP hD hS hA [] [0, 1, 2, 3, 4] rfl rfl (by decide) (by decide) (fun H locs hP hD hS => ?_)
    clear hc
    have hP : va_P D classes [(o, .inr (12, mo q z)), ((q 34), .inl (cy 1, 8, .inl u0)), ((q 35), .inl (cy 1, 64, .inl u1)), ((q 36), .inl (cy 0, 32, .inl u2)), ((q 37), .inl (cy 0, 100200, .inl u3))] H := hP
    have hD : va_D A [(o, .inr (12, mo q z)), ((q 34), .inl (cy 1, 8, .inl u0)), ((q 35), .inl (cy 1, 64, .inl u1)), ((q 36), .inl (cy 0, 32, .inl u2)), ((q 37), .inl (cy 0, 100200, .inl u3))] := hD
    refine lv_ixor hx hb d_M_sha_264 ?_
    refine lv_topi (fun v24 ev => ?_)
    have hf := bn ev hf
    clear ev
    refine lv_iload hx hb d_M_sha_265 (lv_at hl 0 rfl) ?_
    refine lv_bipush (v := 10) hx hb d_M_sha_267 (by decide) ?_
    refine lv_iushr hx hb d_M_sha_269 rfl ?_
    refine lv_ixor hx hb d_M_sha_270 ?_
    refine lv_iadd hx hb d_M_sha_271 ?_
    refine lv_topi (fun v25 ev => ?_)
    have hf := bn ev hf
    clear ev
    obtain ⟨hg, hf⟩ := gdp hf
    refine va_iast hx hb hK hP hD hS 2 1 rfl rfl (inb_in hg) d_M_sha_272 (fun H locs hP hD hS => ?_)
    obtain ⟨f26, ev, hf⟩ := bne hf
    have hP : va_P D classes [(o, .inr (12, mo q z)), ((q 34), .inl (cy 1, 8, .inl u0)), ((q 35), .inl (cy 1, 64, .inl f26)), ((q 36), .inl (cy 0, 32, .inl u2)), ((q 37), .inl (cy 0, 100200, .inl u3))] H := by rw [ev]; exact hP
    have hD : va_D A [(o, .inr (12, mo q z)), ((q 34), .inl (cy 1, 8, .inl u0)), ((q 35), .inl (cy 1, 64, .inl f26)), ((q 36), .inl (cy 0, 32, .inl u2)), ((q 37), .inl (cy 0, 100200, .inl u3))] := by rw [ev]; exact hD
    clear ev
    obtain ⟨v27, ev, hf⟩ := bne hf
    refine lv_iinc (v := v27) (lv' := [(7, .int v27), (9, .int v12), (8, .int v10), (0, .ref o), (4, .int x4), (6, .int x6)]) hx hb d_M_sha_273 hl (k := 5) rfl (by rw [ev]; rfl) (by decide) rfl (fun ls hl => ?_)
    clear ev
    refine lv_goto (tgt := 172) hx hb d_M_sha_276 (by decide) ?_
    exact hk_172 _ _ _ _ _ _ _ _ hf _ _ _ hP hD hS (lv_sub hl [3, 4, 5, 0] rfl)
theorem w_M_sha_f1hash_172 {p : Program} {l : Launch} {e : Env} {s : State} {m : MethodId} {args : Array Value} {below : List Frame} {meth : Method} {c : Code} {D : va_G} {cy : Nat → ClassId} {A : Nat → Prop} {ad : Nat → Nat} {o : Nat} {q : Nat → Nat} {z : Nat → Int32} {fu : Nat} {k_121 : Int32 → Int32 → (Nat → Int32) → (Nat → Int32) → (Nat → Int32) → (Nat → Int32) → Option ((Nat → Int32) × (Nat → Int32) × (Nat → Int32) × (Nat → Int32))} (F : Fx p s m args meth c b_M_sha 18 "CoinKeeperModel" "sha" none D cy ad A) (hk_121 : I_M_sha_f1hash_121 p l e s m args below meth c D cy A ad o q z k_121) : ∀ n : Nat, I_M_sha_f1hash_172 p l e s m args below meth c D cy A ad o q z (x_M_sha_f1hash_172 fu z k_121 n)
  | 0 => fun _ _ _ _ _ _ _ _ hf => nomatch (show (none : Option ((Nat → Int32) × (Nat → Int32) × (Nat → Int32) × (Nat → Int32))) = some _ from hf)
  | n + 1 => wb_M_sha_f1hash_172 F hk_121 (w_M_sha_f1hash_172 F hk_121 n)
set_option maxHeartbeats 8000000 in
set_option maxRecDepth 100000 in
theorem wb_M_sha_f1hash_131 {p : Program} {l : Launch} {e : Env} {s : State} {m : MethodId} {args : Array Value} {below : List Frame} {meth : Method} {c : Code} {D : va_G} {cy : Nat → ClassId} {A : Nat → Prop} {ad : Nat → Nat} {o : Nat} {q : Nat → Nat} {z : Nat → Int32} {fu : Nat} {k_121 : Int32 → Int32 → (Nat → Int32) → (Nat → Int32) → (Nat → Int32) → (Nat → Int32) → Option ((Nat → Int32) × (Nat → Int32) × (Nat → Int32) × (Nat → Int32))} {k_131 : Int32 → Int32 → Int32 → (Nat → Int32) → (Nat → Int32) → (Nat → Int32) → (Nat → Int32) → Option ((Nat → Int32) × (Nat → Int32) × (Nat → Int32) × (Nat → Int32))} (F : Fx p s m args meth c b_M_sha 18 "CoinKeeperModel" "sha" none D cy ad A) (hk_121 : I_M_sha_f1hash_121 p l e s m args below meth c D cy A ad o q z k_121) (hk_131 : I_M_sha_f1hash_131 p l e s m args below meth c D cy A ad o q z k_131) : I_M_sha_f1hash_131 p l e s m args below meth c D cy A ad o q z (xb_M_sha_f1hash_131 fu z k_121 k_131) := by
  obtain ⟨hx, hb, hr, hml, hown, hts, hlocks, hK, hA, hSt, hnm, hex⟩ := id F
  intro x4 x6 x7 u0 u1 u2 u3 res hf H locs ls hP hD hS hl
  unfold xb_M_sha_f1hash_131 at hf
  refine lv_iload hx hb d_M_sha_131 (lv_at hl 3 rfl) ?_
  refine lv_bipush (v := 16) hx hb d_M_sha_133 (by decide) ?_
  refine lv_icmp_ge (tgt := 168) hx hb d_M_sha_135 (by decide) (fun cx => ?_) (fun cx => ?_)
  · have hf := ifp cx hf
    refine lv_bipush (v := 16) hx hb d_M_sha_168 (by decide) ?_
    refine lv_istore (lv' := [(7, .int (16 : Int32)), (0, .ref o), (4, .int x4), (6, .int x6)]) hx hb d_M_sha_170 hl (by decide) rfl (fun ls hl => ?_)
    exact w_M_sha_f1hash_172 F hk_121 fu _ _ _ _ _ _ _ _ hf _ _ _ hP hD hS (lv_sub hl [1, 2, 3, 0] rfl)
  · have hf := ifn cx hf
    refine lv_aload_n hx hb d_M_sha_138 rfl (lv_at hl 0 rfl) ?_
    refine va_get (D := D) (ci := 12) (v := .ref (q 35)) (C := "CoinKeeperModel") (T := F_12) (N := 98) hx hb hts i_12 hown hK hP 0 rfl rfl 43 (by decide) (hts _ gw_1462) (fun _ h9 => h9) rfl d_M_sha_139 ?_
    refine lv_iload hx hb d_M_sha_142 (lv_at hl 3 rfl) ?_
    refine lv_aload_n hx hb d_M_sha_144 rfl (lv_at hl 0 rfl) ?_
    refine va_get (D := D) (ci := 12) (v := .ref (q 37)) (C := "CoinKeeperModel") (T := F_12) (N := 98) hx hb hts i_12 hown hK hP 0 rfl rfl 45 (by decide) (hts _ gw_1464) (fun _ h9 => h9) rfl d_M_sha_145 ?_
    refine lv_bipush (v := 64) hx hb d_M_sha_148 (by decide) ?_
    refine lv_iload hx hb d_M_sha_150 (lv_at hl 2 rfl) ?_
    refine lv_imul hx hb d_M_sha_152 ?_
    refine lv_topi (fun v1 ev => ?_)
    have hf := bn ev hf
    clear ev
    refine lv_iconst (v := 4) hx hb d_M_sha_153 (by decide) ?_
    refine lv_iload hx hb d_M_sha_154 (lv_at hl 3 rfl) ?_
    refine lv_imul hx hb d_M_sha_156 ?_
    refine lv_iadd hx hb d_M_sha_157 ?_
    refine lv_topi (fun v2 ev => ?_)
    have hf := bn ev hf
    clear ev
    obtain ⟨v3, hc, hf⟩ := bdp1 hf
    refine q_ai (wr := [(o, .inr (12, mo q z)), ((q 34), .inl (cy 1, 8, .inl u0)), ((q 35), .inl (cy 1, 64, .inl u1)), ((q 36), .inl (cy 0, 32, .inl u2))]) (va_runS (As := [.ref (q 37), .int v2]) (rest := [.int x7, .ref (q 35)]) ⟨hx, hb, hml, hown, hts⟩ (c_M_big l D cy ad fu (q 37) 100200 u3 v2 _ hc H.size) ⟨q_cB hts gw_1771 gw_18 gw_1769 hdm_1 ⟨by decide, by decide⟩, hts _ gw_1770⟩ (q_pre (hP.sub [4] rfl) (hD.sub [4] (by decide) rfl) hK hSt hS (va_free hD hS hA [4] rfl) _) rfl rfl hl.1 rfl (lv_room (Nat.le_of_ble_eq_true rfl)) d_M_sha_158 ⟨Nat.le_of_ble_eq_true rfl, Nat.le_of_ble_eq_true rfl⟩) hP hD hS hA [4] [0, 1, 2, 3] rfl rfl (by decide) (by decide) (fun H locs hP hD hS => ?_)
    clear hc
    have hP : va_P D classes [(o, .inr (12, mo q z)), ((q 34), .inl (cy 1, 8, .inl u0)), ((q 35), .inl (cy 1, 64, .inl u1)), ((q 36), .inl (cy 0, 32, .inl u2)), ((q 37), .inl (cy 0, 100200, .inl u3))] H := hP
    have hD : va_D A [(o, .inr (12, mo q z)), ((q 34), .inl (cy 1, 8, .inl u0)), ((q 35), .inl (cy 1, 64, .inl u1)), ((q 36), .inl (cy 0, 32, .inl u2)), ((q 37), .inl (cy 0, 100200, .inl u3))] := hD
    obtain ⟨hg, hf⟩ := gdp hf
    refine va_iast hx hb hK hP hD hS 2 1 rfl rfl (inb_in hg) d_M_sha_161 (fun H locs hP hD hS => ?_)
    obtain ⟨f4, ev, hf⟩ := bne hf
    have hP : va_P D classes [(o, .inr (12, mo q z)), ((q 34), .inl (cy 1, 8, .inl u0)), ((q 35), .inl (cy 1, 64, .inl f4)), ((q 36), .inl (cy 0, 32, .inl u2)), ((q 37), .inl (cy 0, 100200, .inl u3))] H := by rw [ev]; exact hP
    have hD : va_D A [(o, .inr (12, mo q z)), ((q 34), .inl (cy 1, 8, .inl u0)), ((q 35), .inl (cy 1, 64, .inl f4)), ((q 36), .inl (cy 0, 32, .inl u2)), ((q 37), .inl (cy 0, 100200, .inl u3))] := by rw [ev]; exact hD
    clear ev
    obtain ⟨v5, ev, hf⟩ := bne hf
    refine lv_iinc (v := v5) (lv' := [(7, .int v5), (0, .ref o), (4, .int x4), (6, .int x6)]) hx hb d_M_sha_162 hl (k := 3) rfl (by rw [ev]; rfl) (by decide) rfl (fun ls hl => ?_)
    clear ev
    refine lv_goto (tgt := 131) hx hb d_M_sha_165 (by decide) ?_
    exact hk_131 _ _ _ _ _ _ _ _ hf _ _ _ hP hD hS (lv_sub hl [1, 2, 3, 0] rfl)
theorem w_M_sha_f1hash_131 {p : Program} {l : Launch} {e : Env} {s : State} {m : MethodId} {args : Array Value} {below : List Frame} {meth : Method} {c : Code} {D : va_G} {cy : Nat → ClassId} {A : Nat → Prop} {ad : Nat → Nat} {o : Nat} {q : Nat → Nat} {z : Nat → Int32} {fu : Nat} {k_121 : Int32 → Int32 → (Nat → Int32) → (Nat → Int32) → (Nat → Int32) → (Nat → Int32) → Option ((Nat → Int32) × (Nat → Int32) × (Nat → Int32) × (Nat → Int32))} (F : Fx p s m args meth c b_M_sha 18 "CoinKeeperModel" "sha" none D cy ad A) (hk_121 : I_M_sha_f1hash_121 p l e s m args below meth c D cy A ad o q z k_121) : ∀ n : Nat, I_M_sha_f1hash_131 p l e s m args below meth c D cy A ad o q z (x_M_sha_f1hash_131 fu z k_121 n)
  | 0 => fun _ _ _ _ _ _ _ _ hf => nomatch (show (none : Option ((Nat → Int32) × (Nat → Int32) × (Nat → Int32) × (Nat → Int32))) = some _ from hf)
  | n + 1 => wb_M_sha_f1hash_131 F hk_121 (w_M_sha_f1hash_131 F hk_121 n)
set_option maxHeartbeats 8000000 in
set_option maxRecDepth 100000 in
theorem wb_M_sha_f1hash_121 {p : Program} {l : Launch} {e : Env} {s : State} {m : MethodId} {args : Array Value} {below : List Frame} {meth : Method} {c : Code} {D : va_G} {cy : Nat → ClassId} {A : Nat → Prop} {ad : Nat → Nat} {o : Nat} {q : Nat → Nat} {z : Nat → Int32} {fu : Nat} {k_121 : Int32 → Int32 → (Nat → Int32) → (Nat → Int32) → (Nat → Int32) → (Nat → Int32) → Option ((Nat → Int32) × (Nat → Int32) × (Nat → Int32) × (Nat → Int32))} (F : Fx p s m args meth c b_M_sha 18 "CoinKeeperModel" "sha" none D cy ad A) (hk_121 : I_M_sha_f1hash_121 p l e s m args below meth c D cy A ad o q z k_121) : I_M_sha_f1hash_121 p l e s m args below meth c D cy A ad o q z (xb_M_sha_f1hash_121 fu z k_121) := by
  obtain ⟨hx, hb, hr, hml, hown, hts, hlocks, hK, hA, hSt, hnm, hex⟩ := id F
  intro x4 x6 u0 u1 u2 u3 res hf H locs ls hP hD hS hl
  unfold xb_M_sha_f1hash_121 at hf
  refine lv_iload hx hb d_M_sha_121 (lv_at hl 2 rfl) ?_
  refine lv_iload hx hb d_M_sha_123 (lv_at hl 1 rfl) ?_
  refine lv_icmp_ge (tgt := 594) hx hb d_M_sha_125 (by decide) (fun cx => ?_) (fun cx => ?_)
  · have hf := ifp cx hf
    refine lv_iconst (v := 0) hx hb d_M_sha_594 (by decide) ?_
    refine lv_istore (lv' := [(6, .int (0 : Int32)), (0, .ref o), (4, .int x4)]) hx hb d_M_sha_595 hl (by decide) rfl (fun ls hl => ?_)
    exact w_M_sha_f1hash_597 F fu _ _ _ _ _ _ hf _ _ _ hP hD hS (lv_sub hl [1, 0] rfl)
  · have hf := ifn cx hf
    refine lv_iconst (v := 0) hx hb d_M_sha_128 (by decide) ?_
    refine lv_istore (lv' := [(7, .int (0 : Int32)), (0, .ref o), (4, .int x4), (6, .int x6)]) hx hb d_M_sha_129 hl (by decide) rfl (fun ls hl => ?_)
    exact w_M_sha_f1hash_131 F hk_121 fu _ _ _ _ _ _ _ _ hf _ _ _ hP hD hS (lv_sub hl [1, 2, 3, 0] rfl)
theorem w_M_sha_f1hash_121 {p : Program} {l : Launch} {e : Env} {s : State} {m : MethodId} {args : Array Value} {below : List Frame} {meth : Method} {c : Code} {D : va_G} {cy : Nat → ClassId} {A : Nat → Prop} {ad : Nat → Nat} {o : Nat} {q : Nat → Nat} {z : Nat → Int32} {fu : Nat} (F : Fx p s m args meth c b_M_sha 18 "CoinKeeperModel" "sha" none D cy ad A) : ∀ n : Nat, I_M_sha_f1hash_121 p l e s m args below meth c D cy A ad o q z (x_M_sha_f1hash_121 fu z n)
  | 0 => fun _ _ _ _ _ _ _ hf => nomatch (show (none : Option ((Nat → Int32) × (Nat → Int32) × (Nat → Int32) × (Nat → Int32))) = some _ from hf)
  | n + 1 => wb_M_sha_f1hash_121 F (w_M_sha_f1hash_121 F n)
set_option maxHeartbeats 8000000 in
set_option maxRecDepth 100000 in
theorem wb_M_sha_f1hash_65 {p : Program} {l : Launch} {e : Env} {s : State} {m : MethodId} {args : Array Value} {below : List Frame} {meth : Method} {c : Code} {D : va_G} {cy : Nat → ClassId} {A : Nat → Prop} {ad : Nat → Nat} {o : Nat} {q : Nat → Nat} {z : Nat → Int32} {fu : Nat} {k_65 : Int32 → Int32 → Int32 → Int32 → (Nat → Int32) → (Nat → Int32) → (Nat → Int32) → (Nat → Int32) → Option ((Nat → Int32) × (Nat → Int32) × (Nat → Int32) × (Nat → Int32))} (F : Fx p s m args meth c b_M_sha 18 "CoinKeeperModel" "sha" none D cy ad A) (hk_65 : I_M_sha_f1hash_65 p l e s m args below meth c D cy A ad o q z k_65) : I_M_sha_f1hash_65 p l e s m args below meth c D cy A ad o q z (xb_M_sha_f1hash_65 fu z k_65) := by
  obtain ⟨hx, hb, hr, hml, hown, hts, hlocks, hK, hA, hSt, hnm, hex⟩ := id F
  intro x3 x4 x5 x6 u0 u1 u2 u3 res hf H locs ls hP hD hS hl
  unfold xb_M_sha_f1hash_65 at hf
  refine lv_iload hx hb d_M_sha_65 (lv_at hl 4 rfl) ?_
  refine lv_bipush (v := 8) hx hb d_M_sha_67 (by decide) ?_
  refine lv_icmp_ge (tgt := 104) hx hb d_M_sha_69 (by decide) (fun cx => ?_) (fun cx => ?_)
  · have hf := ifp cx hf
    refine va_gets hx hb (hSt.1 14 _ rfl).1 hS hown (hts _ gw_1767) (fun _ h9 => h9) d_M_sha_104 ?_
    refine lv_iconst (v := 0) hx hb d_M_sha_107 (by decide) ?_
    refine lv_aload_n hx hb d_M_sha_108 rfl (lv_at hl 0 rfl) ?_
    refine va_get (D := D) (ci := 12) (v := .ref (q 34)) (C := "CoinKeeperModel") (T := F_12) (N := 98) hx hb hts i_12 hown hK hP 0 rfl rfl 42 (by decide) (hts _ gw_1461) (fun _ h9 => h9) rfl d_M_sha_109 ?_
    refine lv_iconst (v := 0) hx hb d_M_sha_112 (by decide) ?_
    refine lv_bipush (v := 8) hx hb d_M_sha_113 (by decide) ?_
    obtain ⟨hg, hf⟩ := gdp hf
    refine q_copyt (rest := []) hx hb (hml.trans hl.1.symm) hown (hts _ gw_1398) (hts _ gw_497) (hts _ gw_496) (hts _ gw_17) hK hP hD hS (hSt.1 14 _ rfl).2 1 1 rfl rfl (cpk_p hg).1 (cpk_p hg).2.1 (cpk_p hg).2.2.1 (cpk_p hg).2.2.2.1 (cpk_p hg).2.2.2.2 (by decide) (by decide) d_M_sha_115 (fun H locs hP hD hS => ?_)
    obtain ⟨f1, ev, hf⟩ := bne hf
    have hP : va_P D classes [(o, .inr (12, mo q z)), ((q 34), .inl (cy 1, 8, .inl f1)), ((q 35), .inl (cy 1, 64, .inl u1)), ((q 36), .inl (cy 0, 32, .inl u2)), ((q 37), .inl (cy 0, 100200, .inl u3))] H := by rw [ev]; exact hP
    have hD : va_D A [(o, .inr (12, mo q z)), ((q 34), .inl (cy 1, 8, .inl f1)), ((q 35), .inl (cy 1, 64, .inl u1)), ((q 36), .inl (cy 0, 32, .inl u2)), ((q 37), .inl (cy 0, 100200, .inl u3))] := by rw [ev]; exact hD
    clear ev
    refine lv_iconst (v := 0) hx hb d_M_sha_118 (by decide) ?_
    refine lv_istore (lv' := [(6, .int (0 : Int32)), (0, .ref o), (3, .int x3), (4, .int x4), (5, .int x5)]) hx hb d_M_sha_119 hl (by decide) rfl (fun ls hl => ?_)
    exact w_M_sha_f1hash_121 F fu _ _ _ _ _ _ _ hf _ _ _ hP hD hS (lv_sub hl [1, 3, 0] rfl)
  · have hf := ifn cx hf
    refine lv_aload_n hx hb d_M_sha_72 rfl (lv_at hl 0 rfl) ?_
    refine va_get (D := D) (ci := 12) (v := .ref (q 37)) (C := "CoinKeeperModel") (T := F_12) (N := 98) hx hb hts i_12 hown hK hP 0 rfl rfl 45 (by decide) (hts _ gw_1464) (fun _ h9 => h9) rfl d_M_sha_73 ?_
    refine lv_iload hx hb d_M_sha_76 (lv_at hl 3 rfl) ?_
    refine lv_iconst (v := 1) hx hb d_M_sha_78 (by decide) ?_
    refine lv_isub hx hb d_M_sha_79 ?_
    refine lv_topi (fun v2 ev => ?_)
    have hf := bn ev hf
    clear ev
    refine lv_iload hx hb d_M_sha_80 (lv_at hl 4 rfl) ?_
    refine lv_isub hx hb d_M_sha_82 ?_
    refine lv_topi (fun v3 ev => ?_)
    have hf := bn ev hf
    clear ev
    refine lv_ldc2 (v := 8) hx hb hown (hts _ gw_1766) d_M_sha_83 ?_
    refine lv_iload_n hx hb d_M_sha_86 rfl (lv_at hl 1 rfl) ?_
    refine lv_i2l hx hb d_M_sha_87 rfl ?_
    refine lv_lmul hx hb d_M_sha_88 ?_
    refine lv_topl (fun v4 ev => ?_)
    have hf := bn ev hf
    clear ev
    refine lv_bipush (v := 8) hx hb d_M_sha_89 (by decide) ?_
    refine lv_iload hx hb d_M_sha_91 (lv_at hl 4 rfl) ?_
    refine lv_imul hx hb d_M_sha_93 ?_
    refine lv_lshr hx hb d_M_sha_94 rfl ?_
    refine lv_l2i hx hb d_M_sha_95 rfl ?_
    refine lv_i2b hx hb d_M_sha_96 rfl ?_
    refine lv_topi (fun v5 ev => ?_)
    have hf := bn ev hf
    clear ev
    obtain ⟨hg, hf⟩ := gdp hf
    refine va_bast hx hb hK hP hD hS 4 0 rfl rfl (inb_in hg) d_M_sha_97 (fun H locs hP hD hS => ?_)
    obtain ⟨f6, ev, hf⟩ := bne hf
    have hP : va_P D classes [(o, .inr (12, mo q z)), ((q 34), .inl (cy 1, 8, .inl u0)), ((q 35), .inl (cy 1, 64, .inl u1)), ((q 36), .inl (cy 0, 32, .inl u2)), ((q 37), .inl (cy 0, 100200, .inl f6))] H := by rw [ev]; exact hP
    have hD : va_D A [(o, .inr (12, mo q z)), ((q 34), .inl (cy 1, 8, .inl u0)), ((q 35), .inl (cy 1, 64, .inl u1)), ((q 36), .inl (cy 0, 32, .inl u2)), ((q 37), .inl (cy 0, 100200, .inl f6))] := by rw [ev]; exact hD
    clear ev
    obtain ⟨v7, ev, hf⟩ := bne hf
    refine lv_iinc (v := v7) (lv' := [(6, .int v7), (0, .ref o), (3, .int x3), (4, .int x4), (5, .int x5)]) hx hb d_M_sha_98 hl (k := 4) rfl (by rw [ev]; rfl) (by decide) rfl (fun ls hl => ?_)
    clear ev
    refine lv_goto (tgt := 65) hx hb d_M_sha_101 (by decide) ?_
    exact hk_65 _ _ _ _ _ _ _ _ _ hf _ _ _ hP hD hS (lv_sub hl [1, 2, 3, 4, 0] rfl)
theorem w_M_sha_f1hash_65 {p : Program} {l : Launch} {e : Env} {s : State} {m : MethodId} {args : Array Value} {below : List Frame} {meth : Method} {c : Code} {D : va_G} {cy : Nat → ClassId} {A : Nat → Prop} {ad : Nat → Nat} {o : Nat} {q : Nat → Nat} {z : Nat → Int32} {fu : Nat} (F : Fx p s m args meth c b_M_sha 18 "CoinKeeperModel" "sha" none D cy ad A) : ∀ n : Nat, I_M_sha_f1hash_65 p l e s m args below meth c D cy A ad o q z (x_M_sha_f1hash_65 fu z n)
  | 0 => fun _ _ _ _ _ _ _ _ _ hf => nomatch (show (none : Option ((Nat → Int32) × (Nat → Int32) × (Nat → Int32) × (Nat → Int32))) = some _ from hf)
  | n + 1 => wb_M_sha_f1hash_65 F (w_M_sha_f1hash_65 F n)
set_option maxHeartbeats 8000000 in
set_option maxRecDepth 100000 in
theorem wb_M_sha_f1hash_33 {p : Program} {l : Launch} {e : Env} {s : State} {m : MethodId} {args : Array Value} {below : List Frame} {meth : Method} {c : Code} {D : va_G} {cy : Nat → ClassId} {A : Nat → Prop} {ad : Nat → Nat} {o : Nat} {q : Nat → Nat} {z : Nat → Int32} {fu : Nat} {k_33 : Int32 → Int32 → Int32 → Int32 → (Nat → Int32) → (Nat → Int32) → (Nat → Int32) → (Nat → Int32) → Option ((Nat → Int32) × (Nat → Int32) × (Nat → Int32) × (Nat → Int32))} (F : Fx p s m args meth c b_M_sha 18 "CoinKeeperModel" "sha" none D cy ad A) (hk_33 : I_M_sha_f1hash_33 p l e s m args below meth c D cy A ad o q z k_33) : I_M_sha_f1hash_33 p l e s m args below meth c D cy A ad o q z (xb_M_sha_f1hash_33 fu z k_33) := by
  obtain ⟨hx, hb, hr, hml, hown, hts, hlocks, hK, hA, hSt, hnm, hex⟩ := id F
  intro x3 x4 x5 x6 u0 u1 u2 u3 res hf H locs ls hP hD hS hl
  unfold xb_M_sha_f1hash_33 at hf
  refine lv_iload hx hb d_M_sha_33 (lv_at hl 4 rfl) ?_
  refine lv_iload hx hb d_M_sha_35 (lv_at hl 3 rfl) ?_
  refine lv_icmp_ge (tgt := 54) hx hb d_M_sha_37 (by decide) (fun cx => ?_) (fun cx => ?_)
  · have hf := ifp cx hf
    refine lv_aload_n hx hb d_M_sha_54 rfl (lv_at hl 0 rfl) ?_
    refine va_get (D := D) (ci := 12) (v := .ref (q 37)) (C := "CoinKeeperModel") (T := F_12) (N := 98) hx hb hts i_12 hown hK hP 0 rfl rfl 45 (by decide) (hts _ gw_1464) (fun _ h9 => h9) rfl d_M_sha_55 ?_
    refine lv_iload_n hx hb d_M_sha_58 rfl (lv_at hl 1 rfl) ?_
    refine lv_bipush (v := (-128)) hx hb d_M_sha_59 (by decide) ?_
    obtain ⟨hg, hf⟩ := gdp hf
    refine va_bast hx hb hK hP hD hS 4 0 rfl rfl (inb_in hg) d_M_sha_61 (fun H locs hP hD hS => ?_)
    obtain ⟨f1, ev, hf⟩ := bne hf
    have hP : va_P D classes [(o, .inr (12, mo q z)), ((q 34), .inl (cy 1, 8, .inl u0)), ((q 35), .inl (cy 1, 64, .inl u1)), ((q 36), .inl (cy 0, 32, .inl u2)), ((q 37), .inl (cy 0, 100200, .inl f1))] H := by rw [ev]; exact hP
    have hD : va_D A [(o, .inr (12, mo q z)), ((q 34), .inl (cy 1, 8, .inl u0)), ((q 35), .inl (cy 1, 64, .inl u1)), ((q 36), .inl (cy 0, 32, .inl u2)), ((q 37), .inl (cy 0, 100200, .inl f1))] := by rw [ev]; exact hD
    clear ev
    refine lv_iconst (v := 0) hx hb d_M_sha_62 (by decide) ?_
    refine lv_istore (lv' := [(6, .int (0 : Int32)), (0, .ref o), (3, .int x3), (4, .int x4), (5, .int x5)]) hx hb d_M_sha_63 hl (by decide) rfl (fun ls hl => ?_)
    exact w_M_sha_f1hash_65 F fu _ _ _ _ _ _ _ _ _ hf _ _ _ hP hD hS (lv_sub hl [1, 2, 3, 4, 0] rfl)
  · have hf := ifn cx hf
    refine lv_aload_n hx hb d_M_sha_40 rfl (lv_at hl 0 rfl) ?_
    refine va_get (D := D) (ci := 12) (v := .ref (q 37)) (C := "CoinKeeperModel") (T := F_12) (N := 98) hx hb hts i_12 hown hK hP 0 rfl rfl 45 (by decide) (hts _ gw_1464) (fun _ h9 => h9) rfl d_M_sha_41 ?_
    refine lv_iload hx hb d_M_sha_44 (lv_at hl 4 rfl) ?_
    refine lv_iconst (v := 0) hx hb d_M_sha_46 (by decide) ?_
    obtain ⟨hg, hf⟩ := gdp hf
    refine va_bast hx hb hK hP hD hS 4 0 rfl rfl (inb_in hg) d_M_sha_47 (fun H locs hP hD hS => ?_)
    obtain ⟨f2, ev, hf⟩ := bne hf
    have hP : va_P D classes [(o, .inr (12, mo q z)), ((q 34), .inl (cy 1, 8, .inl u0)), ((q 35), .inl (cy 1, 64, .inl u1)), ((q 36), .inl (cy 0, 32, .inl u2)), ((q 37), .inl (cy 0, 100200, .inl f2))] H := by rw [ev]; exact hP
    have hD : va_D A [(o, .inr (12, mo q z)), ((q 34), .inl (cy 1, 8, .inl u0)), ((q 35), .inl (cy 1, 64, .inl u1)), ((q 36), .inl (cy 0, 32, .inl u2)), ((q 37), .inl (cy 0, 100200, .inl f2))] := by rw [ev]; exact hD
    clear ev
    obtain ⟨v3, ev, hf⟩ := bne hf
    refine lv_iinc (v := v3) (lv' := [(6, .int v3), (0, .ref o), (3, .int x3), (4, .int x4), (5, .int x5)]) hx hb d_M_sha_48 hl (k := 4) rfl (by rw [ev]; rfl) (by decide) rfl (fun ls hl => ?_)
    clear ev
    refine lv_goto (tgt := 33) hx hb d_M_sha_51 (by decide) ?_
    exact hk_33 _ _ _ _ _ _ _ _ _ hf _ _ _ hP hD hS (lv_sub hl [1, 2, 3, 4, 0] rfl)
theorem w_M_sha_f1hash_33 {p : Program} {l : Launch} {e : Env} {s : State} {m : MethodId} {args : Array Value} {below : List Frame} {meth : Method} {c : Code} {D : va_G} {cy : Nat → ClassId} {A : Nat → Prop} {ad : Nat → Nat} {o : Nat} {q : Nat → Nat} {z : Nat → Int32} {fu : Nat} (F : Fx p s m args meth c b_M_sha 18 "CoinKeeperModel" "sha" none D cy ad A) : ∀ n : Nat, I_M_sha_f1hash_33 p l e s m args below meth c D cy A ad o q z (x_M_sha_f1hash_33 fu z n)
  | 0 => fun _ _ _ _ _ _ _ _ _ hf => nomatch (show (none : Option ((Nat → Int32) × (Nat → Int32) × (Nat → Int32) × (Nat → Int32))) = some _ from hf)
  | n + 1 => wb_M_sha_f1hash_33 F (w_M_sha_f1hash_33 F n)
set_option maxHeartbeats 8000000 in
set_option maxRecDepth 100000 in
theorem we_M_sha_f1hash {p : Program} {l : Launch} {e : Env} {s : State} {m : MethodId} {args : Array Value} {below : List Frame} {meth : Method} {c : Code} {D : va_G} {cy : Nat → ClassId} {A : Nat → Prop} {ad : Nat → Nat} {o : Nat} {q : Nat → Nat} {z : Nat → Int32} {fu : Nat} (F : Fx p s m args meth c b_M_sha 18 "CoinKeeperModel" "sha" none D cy ad A) : I_M_sha_f1hash_e p l e s m args below meth c D cy A ad o q z (x_M_sha_f1hash fu z) := by
  obtain ⟨hx, hb, hr, hml, hown, hts, hlocks, hK, hA, hSt, hnm, hex⟩ := id F
  intro a2 a3 u0 u1 u2 u3 res hf H locs ls hP hD hS hl
  unfold x_M_sha_f1hash at hf
  refine lv_iload_n hx hb d_M_sha_0 rfl (lv_at hl 3 rfl) ?_
  refine lv_bipush (v := 9) hx hb d_M_sha_1 (by decide) ?_
  refine lv_iadd hx hb d_M_sha_3 ?_
  refine lv_topi (fun v1 ev => ?_)
  have hf := bn ev hf
  clear ev
  refine lv_bipush (v := 63) hx hb d_M_sha_4 (by decide) ?_
  refine lv_iadd hx hb d_M_sha_6 ?_
  refine lv_topi (fun v2 ev => ?_)
  have hf := bn ev hf
  clear ev
  refine lv_bipush (v := 64) hx hb d_M_sha_7 (by decide) ?_
  refine lv_idiv hx hb d_M_sha_9 (by decide) ?_
  refine lv_topi (fun v3 ev => ?_)
  have hf := bn ev hf
  clear ev
  refine lv_istore (lv' := [(4, .int v3), (0, .ref o), (1, .ref (q 36)), (2, .int a2), (3, .int a3)]) hx hb d_M_sha_10 hl (by decide) rfl (fun ls hl => ?_)
  refine lv_bipush (v := 64) hx hb d_M_sha_12 (by decide) ?_
  refine lv_iload hx hb d_M_sha_14 (lv_at hl 0 rfl) ?_
  refine lv_imul hx hb d_M_sha_16 ?_
  refine lv_topi (fun v4 ev => ?_)
  have hf := bn ev hf
  clear ev
  refine lv_istore (lv' := [(5, .int v4), (4, .int v3), (0, .ref o), (1, .ref (q 36)), (2, .int a2), (3, .int a3)]) hx hb d_M_sha_17 hl (by decide) rfl (fun ls hl => ?_)
  refine lv_aload_n hx hb d_M_sha_19 rfl (lv_at hl 3 rfl) ?_
  refine lv_iload_n hx hb d_M_sha_20 rfl (lv_at hl 4 rfl) ?_
  refine lv_aload_n hx hb d_M_sha_21 rfl (lv_at hl 2 rfl) ?_
  refine va_get (D := D) (ci := 12) (v := .ref (q 37)) (C := "CoinKeeperModel") (T := F_12) (N := 98) hx hb hts i_12 hown hK hP 0 rfl rfl 45 (by decide) (hts _ gw_1464) (fun _ h9 => h9) rfl d_M_sha_22 ?_
  refine lv_iconst (v := 0) hx hb d_M_sha_25 (by decide) ?_
  refine lv_iload_n hx hb d_M_sha_26 rfl (lv_at hl 5 rfl) ?_
  obtain ⟨hg, hf⟩ := gdp hf
  obtain ⟨hg2, hf⟩ := gdp hf
  refine va_copyi (rest := []) hx hb (hml.trans hl.1.symm) hown (hts _ gw_1398) (hts _ gw_497) (hts _ gw_496) (hts _ gw_17) hK hP hD hS 3 4 0 0 rfl rfl rfl rfl rfl (cpk_p hg).1 (cpk_p hg).2.1 (cpk_p hg).2.2.1 (cpk_p hg).2.2.2.1 (cpk_p hg).2.2.2.2 (bfit_p hg2) (by decide) (by decide) d_M_sha_27 (fun H locs hP hD hS => ?_)
  obtain ⟨f5, ev, hf⟩ := bne hf
  have hP : va_P D classes [(o, .inr (12, mo q z)), ((q 34), .inl (cy 1, 8, .inl u0)), ((q 35), .inl (cy 1, 64, .inl u1)), ((q 36), .inl (cy 0, 32, .inl u2)), ((q 37), .inl (cy 0, 100200, .inl f5))] H := by rw [ev]; exact hP
  have hD : va_D A [(o, .inr (12, mo q z)), ((q 34), .inl (cy 1, 8, .inl u0)), ((q 35), .inl (cy 1, 64, .inl u1)), ((q 36), .inl (cy 0, 32, .inl u2)), ((q 37), .inl (cy 0, 100200, .inl f5))] := by rw [ev]; exact hD
  clear ev
  refine lv_iload_n hx hb d_M_sha_30 rfl (lv_at hl 5 rfl) ?_
  refine lv_istore (lv' := [(6, .int a3), (5, .int v4), (4, .int v3), (0, .ref o), (1, .ref (q 36)), (2, .int a2), (3, .int a3)]) hx hb d_M_sha_31 hl (by decide) rfl (fun ls hl => ?_)
  exact w_M_sha_f1hash_33 F fu _ _ _ _ _ _ _ _ _ hf _ _ _ hP hD hS (lv_sub hl [3, 6, 2, 1, 0] rfl)
theorem c_M_sha_f1hash (l : Launch) (D : va_G) (cy : Nat → ClassId) (ad : Nat → Nat) (fu : Nat) (o : Nat) (q : Nat → Nat) (z : Nat → Int32) (a2 : Int32) (a3 : Int32) (u0 : Nat → Int32) (u1 : Nat → Int32) (u2 : Nat → Int32) (u3 : Nat → Int32) (res : (Nat → Int32) × (Nat → Int32) × (Nat → Int32) × (Nat → Int32)) (hf : x_M_sha_f1hash fu z a2 a3 u0 u1 u2 u3 = some res) (sz : Nat) : Met l ({ cls := "CoinKeeperModel", name := "sha", desc := "([BII)V" } : Jvm.MethodName) (.code ({ cls := "CoinKeeperModel", name := "sha", desc := "([BII)V" } : Jvm.MethodName) b_M_sha 18 none :: gw) rm_M_sha_f1hash (va_Pc [.ref o, .ref (q 36), .int a2, .int a3] (Pr D cy ad [(o, .inr (12, mo q z)), ((q 34), .inl (cy 1, 8, .inl u0)), ((q 35), .inl (cy 1, 64, .inl u1)), ((q 36), .inl (cy 0, 32, .inl u2)), ((q 37), .inl (cy 0, 100200, .inl u3))] sz)) (q_M_sha_f1hash D cy (va_A [(o, .inr (12, mo q z)), ((q 34), .inl (cy 1, 8, .inl u0)), ((q 35), .inl (cy 1, 64, .inl u1)), ((q 36), .inl (cy 0, 32, .inl u2)), ((q 37), .inl (cy 0, 100200, .inl u3))] sz) o q z res) 0 0 (va_A [(o, .inr (12, mo q z)), ((q 34), .inl (cy 1, 8, .inl u0)), ((q 35), .inl (cy 1, 64, .inl u1)), ((q 36), .inl (cy 0, 32, .inl u2)), ((q 37), .inl (cy 0, 100200, .inl u3))] sz) :=
  q_met (Qc := fun A => q_M_sha_f1hash D cy A o q z res) (by decide) rfl rfl (Nat.le_of_ble_eq_true rfl) (fun p e s m below meth c ls F hP hD hS hl => we_M_sha_f1hash (fu := fu) F a2 a3 u0 u1 u2 u3 res hf _ _ _ hP hD hS hl) sz
abbrev b_M_twice : ByteArray := prog_14_method_5_code
theorem d_M_twice_0 : decode b_M_twice 0 = .ok (.aload_n 0, 1) := by decide +kernel
theorem d_M_twice_1 : decode b_M_twice 1 = .ok (.aload_n 1, 1) := by decide +kernel
theorem d_M_twice_2 : decode b_M_twice 2 = .ok (.iload_n 2, 1) := by decide +kernel
theorem d_M_twice_3 : decode b_M_twice 3 = .ok (.iload_n 3, 1) := by decide +kernel
theorem d_M_twice_4 : decode b_M_twice 4 = .ok (.invokevirtual 293, 3) := by decide +kernel
theorem d_M_twice_7 : decode b_M_twice 7 = .ok (.aload_n 0, 1) := by decide +kernel
theorem d_M_twice_8 : decode b_M_twice 8 = .ok (.aload_n 0, 1) := by decide +kernel
theorem d_M_twice_9 : decode b_M_twice 9 = .ok (.getfield 123, 3) := by decide +kernel
theorem d_M_twice_12 : decode b_M_twice 12 = .ok (.iconst 0, 1) := by decide +kernel
theorem d_M_twice_13 : decode b_M_twice 13 = .ok (.bipush 32, 2) := by decide +kernel
theorem d_M_twice_15 : decode b_M_twice 15 = .ok (.invokevirtual 293, 3) := by decide +kernel
theorem d_M_twice_18 : decode b_M_twice 18 = .ok (.return_, 1) := by decide +kernel
abbrev rm_M_twice : Room := { frames := 2, cells := 0, slots := 0, locals := 63 }
abbrev q_M_twice (D : va_G) (cy : Nat → ClassId) (A : Nat → Prop) (o : Nat) (q : Nat → Nat) (b1 : Nat) (z : Nat → Int32) (n1 : Nat) (h1 : Nat → Int32) (res : (Nat → Int32) × (Nat → Int32) × (Nat → Int32) × (Nat → Int32)) : Array Value → State → Outcome → State → Prop := va_Qv (fun (_ : Unit) => True) (fun _ t => Po D cy A [(o, .inr (12, mo q z)), ((q 34), .inl (cy 1, 8, .inl res.1)), ((q 35), .inl (cy 1, 64, .inl res.2.1)), ((q 36), .inl (cy 0, 32, .inl res.2.2.1)), ((q 37), .inl (cy 0, 100200, .inl res.2.2.2)), (b1, .inl (cy 0, n1, .inl h1))] t) A
def I_M_twice_e (p : Program) (l : Launch) (e : Env) (s : State) (m : MethodId) (args : Array Value) (below : List Frame) (meth : Method) (c : Code) (D : va_G) (cy : Nat → ClassId) (A : Nat → Prop) (ad : Nat → Nat) (o : Nat) (q : Nat → Nat) (b1 : Nat) (z : Nat → Int32) (n1 : Nat) (h1 : Nat → Int32) (k : Int32 → Int32 → (Nat → Int32) → (Nat → Int32) → (Nat → Int32) → (Nat → Int32) → Option ((Nat → Int32) × (Nat → Int32) × (Nat → Int32) × (Nat → Int32))) : Prop :=
  ∀ (a2 : Int32) (a3 : Int32) (u0 : Nat → Int32) (u1 : Nat → Int32) (u2 : Nat → Int32) (u3 : Nat → Int32) (res : (Nat → Int32) × (Nat → Int32) × (Nat → Int32) × (Nat → Int32)), k a2 a3 u0 u1 u2 u3 = some res → ∀ (H : Heap) (locs : List Loc) (ls : Array Slot), va_P D classes [(o, .inr (12, mo q z)), ((q 34), .inl (cy 1, 8, .inl u0)), ((q 35), .inl (cy 1, 64, .inl u1)), ((q 36), .inl (cy 0, 32, .inl u2)), ((q 37), .inl (cy 0, 100200, .inl u3)), (b1, .inl (cy 0, n1, .inl h1))] H → va_D A [(o, .inr (12, mo q z)), ((q 34), .inl (cy 1, 8, .inl u0)), ((q 35), .inl (cy 1, 64, .inl u1)), ((q 36), .inl (cy 0, 32, .inl u2)), ((q 37), .inl (cy 0, 100200, .inl u3)), (b1, .inl (cy 0, n1, .inl h1))] → va_S A s.heap H locs → lv_has ls 4 [(0, .ref o), (1, .ref b1), (2, .int a2), (3, .int a3)] → W p l e rm_M_twice s m args below meth c H locs 0 0 (MQ below (q_M_twice D cy A o q b1 z n1 h1 res) args s 0 0 A) (F0 m 0 ls [])
theorem hdm_2 : ({ cls := "CoinKeeperModel", name := "sha", desc := "([BII)V" } : Jvm.MethodName).cls ≠ "java/lang/invoke/MethodHandle" ∧ ({ cls := "CoinKeeperModel", name := "sha", desc := "([BII)V" } : Jvm.MethodName).cls ≠ "java/lang/invoke/VarHandle" ∧ (parseMethodDescriptor ({ cls := "CoinKeeperModel", name := "sha", desc := "([BII)V" } : Jvm.MethodName).desc).map (fun d => d.parameters.length) = some 3 := by decide +kernel
set_option maxHeartbeats 8000000 in
set_option maxRecDepth 100000 in
theorem we_M_twice {p : Program} {l : Launch} {e : Env} {s : State} {m : MethodId} {args : Array Value} {below : List Frame} {meth : Method} {c : Code} {D : va_G} {cy : Nat → ClassId} {A : Nat → Prop} {ad : Nat → Nat} {o : Nat} {q : Nat → Nat} {b1 : Nat} {z : Nat → Int32} {n1 : Nat} {h1 : Nat → Int32} {fu : Nat} (F : Fx p s m args meth c b_M_twice 4 "CoinKeeperModel" "twice" none D cy ad A) : I_M_twice_e p l e s m args below meth c D cy A ad o q b1 z n1 h1 (x_M_twice fu z n1 h1) := by
  obtain ⟨hx, hb, hr, hml, hown, hts, hlocks, hK, hA, hSt, hnm, hex⟩ := id F
  intro a2 a3 u0 u1 u2 u3 res hf H locs ls hP hD hS hl
  unfold x_M_twice at hf
  refine lv_aload_n hx hb d_M_twice_0 rfl (lv_at hl 0 rfl) ?_
  refine lv_aload_n hx hb d_M_twice_1 rfl (lv_at hl 1 rfl) ?_
  refine lv_iload_n hx hb d_M_twice_2 rfl (lv_at hl 2 rfl) ?_
  refine lv_iload_n hx hb d_M_twice_3 rfl (lv_at hl 3 rfl) ?_
  obtain ⟨f1, f2, f3, f4, hc, hf⟩ := bdp4 hf
  refine q_av (wr := []) (va_runV (C := "CoinKeeperModel") (As := [.ref b1, .int a2, .int a3]) (rest := []) ⟨hx, hb, hml, hown, hts⟩ (c_M_sha l D cy ad fu o q b1 z n1 h1 a2 a3 u0 u1 u2 u3 _ hc H.size) ⟨q_cB hts gw_1765 gw_18 gw_1762 hdm_2 ⟨by decide, by decide⟩, hts _ gw_1764, hts _ gs_73⟩ (q_preV (q_pre (hP.sub [0, 1, 2, 3, 4, 5] rfl) (hD.sub [0, 1, 2, 3, 4, 5] (by decide) rfl) hK hSt hS (va_free hD hS hA [0, 1, 2, 3, 4, 5] rfl) _) (va_recv hK (hP.sub [0, 1, 2, 3, 4, 5] rfl) (ci := 12) (q0 := 0) rfl rfl)) rfl rfl hl.1 rfl (lv_room (Nat.le_of_ble_eq_true rfl)) d_M_twice_4 ⟨Nat.le_of_ble_eq_true rfl, Nat.le_of_ble_eq_true rfl⟩) hP hD hS hA [0, 1, 2, 3, 4, 5] [] rfl rfl (by decide) (by decide) (fun H locs hP hD hS => ?_)
  clear hc
  have hP : va_P D classes [(o, .inr (12, mo q z)), ((q 34), .inl (cy 1, 8, .inl f1)), ((q 35), .inl (cy 1, 64, .inl f2)), ((q 36), .inl (cy 0, 32, .inl f3)), ((q 37), .inl (cy 0, 100200, .inl f4)), (b1, .inl (cy 0, n1, .inl h1))] H := hP
  have hD : va_D A [(o, .inr (12, mo q z)), ((q 34), .inl (cy 1, 8, .inl f1)), ((q 35), .inl (cy 1, 64, .inl f2)), ((q 36), .inl (cy 0, 32, .inl f3)), ((q 37), .inl (cy 0, 100200, .inl f4)), (b1, .inl (cy 0, n1, .inl h1))] := hD
  refine lv_aload_n hx hb d_M_twice_7 rfl (lv_at hl 0 rfl) ?_
  refine lv_aload_n hx hb d_M_twice_8 rfl (lv_at hl 0 rfl) ?_
  refine va_get (D := D) (ci := 12) (v := .ref (q 36)) (C := "CoinKeeperModel") (T := F_12) (N := 98) hx hb hts i_12 hown hK hP 0 rfl rfl 44 (by decide) (hts _ gw_1463) (fun _ h9 => h9) rfl d_M_twice_9 ?_
  refine lv_iconst (v := 0) hx hb d_M_twice_12 (by decide) ?_
  refine lv_bipush (v := 32) hx hb d_M_twice_13 (by decide) ?_
  obtain ⟨f5, f6, f7, f8, hc, hf⟩ := bdp4 hf
  refine q_av (wr := [(b1, .inl (cy 0, n1, .inl h1))]) (va_runV (C := "CoinKeeperModel") (As := [.ref (q 36), .int (0 : Int32), .int (32 : Int32)]) (rest := []) ⟨hx, hb, hml, hown, hts⟩ (c_M_sha_f1hash l D cy ad fu o q z (0 : Int32) (32 : Int32) f1 f2 f3 f4 _ hc H.size) ⟨q_cB hts gw_1765 gw_18 gw_1762 hdm_2 ⟨by decide, by decide⟩, hts _ gw_1764, hts _ gs_73⟩ (q_preV (q_pre (hP.sub [0, 1, 2, 3, 4] rfl) (hD.sub [0, 1, 2, 3, 4] (by decide) rfl) hK hSt hS (va_free hD hS hA [0, 1, 2, 3, 4] rfl) _) (va_recv hK (hP.sub [0, 1, 2, 3, 4] rfl) (ci := 12) (q0 := 0) rfl rfl)) rfl rfl hl.1 rfl (lv_room (Nat.le_of_ble_eq_true rfl)) d_M_twice_15 ⟨Nat.le_of_ble_eq_true rfl, Nat.le_of_ble_eq_true rfl⟩) hP hD hS hA [0, 1, 2, 3, 4] [5] rfl rfl (by decide) (by decide) (fun H locs hP hD hS => ?_)
  clear hc
  have hP : va_P D classes [(b1, .inl (cy 0, n1, .inl h1)), (o, .inr (12, mo q z)), ((q 34), .inl (cy 1, 8, .inl f5)), ((q 35), .inl (cy 1, 64, .inl f6)), ((q 36), .inl (cy 0, 32, .inl f7)), ((q 37), .inl (cy 0, 100200, .inl f8))] H := hP
  have hD : va_D A [(b1, .inl (cy 0, n1, .inl h1)), (o, .inr (12, mo q z)), ((q 34), .inl (cy 1, 8, .inl f5)), ((q 35), .inl (cy 1, 64, .inl f6)), ((q 36), .inl (cy 0, 32, .inl f7)), ((q 37), .inl (cy 0, 100200, .inl f8))] := hD
  obtain rfl := Option.some.inj hf
  exact q_rv hx hb hr hlocks hK (hP.sub [1, 2, 3, 4, 5, 0] rfl) (hD.sub [1, 2, 3, 4, 5, 0] (by decide) rfl) hS d_M_twice_18
theorem c_M_twice (l : Launch) (D : va_G) (cy : Nat → ClassId) (ad : Nat → Nat) (fu : Nat) (o : Nat) (q : Nat → Nat) (b1 : Nat) (z : Nat → Int32) (n1 : Nat) (h1 : Nat → Int32) (a2 : Int32) (a3 : Int32) (u0 : Nat → Int32) (u1 : Nat → Int32) (u2 : Nat → Int32) (u3 : Nat → Int32) (res : (Nat → Int32) × (Nat → Int32) × (Nat → Int32) × (Nat → Int32)) (hf : x_M_twice fu z n1 h1 a2 a3 u0 u1 u2 u3 = some res) (sz : Nat) : Met l ({ cls := "CoinKeeperModel", name := "twice", desc := "([BII)V" } : Jvm.MethodName) (.code ({ cls := "CoinKeeperModel", name := "twice", desc := "([BII)V" } : Jvm.MethodName) b_M_twice 4 none :: gw) rm_M_twice (va_Pc [.ref o, .ref b1, .int a2, .int a3] (Pr D cy ad [(o, .inr (12, mo q z)), ((q 34), .inl (cy 1, 8, .inl u0)), ((q 35), .inl (cy 1, 64, .inl u1)), ((q 36), .inl (cy 0, 32, .inl u2)), ((q 37), .inl (cy 0, 100200, .inl u3)), (b1, .inl (cy 0, n1, .inl h1))] sz)) (q_M_twice D cy (va_A [(o, .inr (12, mo q z)), ((q 34), .inl (cy 1, 8, .inl u0)), ((q 35), .inl (cy 1, 64, .inl u1)), ((q 36), .inl (cy 0, 32, .inl u2)), ((q 37), .inl (cy 0, 100200, .inl u3)), (b1, .inl (cy 0, n1, .inl h1))] sz) o q b1 z n1 h1 res) 0 0 (va_A [(o, .inr (12, mo q z)), ((q 34), .inl (cy 1, 8, .inl u0)), ((q 35), .inl (cy 1, 64, .inl u1)), ((q 36), .inl (cy 0, 32, .inl u2)), ((q 37), .inl (cy 0, 100200, .inl u3)), (b1, .inl (cy 0, n1, .inl h1))] sz) :=
  q_met (Qc := fun A => q_M_twice D cy A o q b1 z n1 h1 res) (by decide) rfl rfl (Nat.le_of_ble_eq_true rfl) (fun p e s m below meth c ls F hP hD hS hl => we_M_twice (fu := fu) F a2 a3 u0 u1 u2 u3 res hf _ _ _ hP hD hS hl) sz
abbrev b_M_small : ByteArray := prog_14_method_7_code
theorem d_M_small_0 : decode b_M_small 0 = .ok (.aload_n 0, 1) := by decide +kernel
theorem d_M_small_1 : decode b_M_small 1 = .ok (.iload_n 1, 1) := by decide +kernel
theorem d_M_small_2 : decode b_M_small 2 = .ok (.baload, 1) := by decide +kernel
theorem d_M_small_3 : decode b_M_small 3 = .ok (.sipush 255, 3) := by decide +kernel
theorem d_M_small_6 : decode b_M_small 6 = .ok (.iand, 1) := by decide +kernel
theorem d_M_small_7 : decode b_M_small 7 = .ok (.aload_n 0, 1) := by decide +kernel
theorem d_M_small_8 : decode b_M_small 8 = .ok (.iload_n 1, 1) := by decide +kernel
theorem d_M_small_9 : decode b_M_small 9 = .ok (.iconst 1, 1) := by decide +kernel
theorem d_M_small_10 : decode b_M_small 10 = .ok (.iadd, 1) := by decide +kernel
theorem d_M_small_11 : decode b_M_small 11 = .ok (.baload, 1) := by decide +kernel
theorem d_M_small_12 : decode b_M_small 12 = .ok (.sipush 255, 3) := by decide +kernel
theorem d_M_small_15 : decode b_M_small 15 = .ok (.iand, 1) := by decide +kernel
theorem d_M_small_16 : decode b_M_small 16 = .ok (.bipush 8, 2) := by decide +kernel
theorem d_M_small_18 : decode b_M_small 18 = .ok (.ishl, 1) := by decide +kernel
theorem d_M_small_19 : decode b_M_small 19 = .ok (.ior, 1) := by decide +kernel
theorem d_M_small_20 : decode b_M_small 20 = .ok (.aload_n 0, 1) := by decide +kernel
theorem d_M_small_21 : decode b_M_small 21 = .ok (.iload_n 1, 1) := by decide +kernel
theorem d_M_small_22 : decode b_M_small 22 = .ok (.iconst 2, 1) := by decide +kernel
theorem d_M_small_23 : decode b_M_small 23 = .ok (.iadd, 1) := by decide +kernel
theorem d_M_small_24 : decode b_M_small 24 = .ok (.baload, 1) := by decide +kernel
theorem d_M_small_25 : decode b_M_small 25 = .ok (.sipush 255, 3) := by decide +kernel
theorem d_M_small_28 : decode b_M_small 28 = .ok (.iand, 1) := by decide +kernel
theorem d_M_small_29 : decode b_M_small 29 = .ok (.bipush 16, 2) := by decide +kernel
theorem d_M_small_31 : decode b_M_small 31 = .ok (.ishl, 1) := by decide +kernel
theorem d_M_small_32 : decode b_M_small 32 = .ok (.ior, 1) := by decide +kernel
theorem d_M_small_33 : decode b_M_small 33 = .ok (.aload_n 0, 1) := by decide +kernel
theorem d_M_small_34 : decode b_M_small 34 = .ok (.iload_n 1, 1) := by decide +kernel
theorem d_M_small_35 : decode b_M_small 35 = .ok (.iconst 3, 1) := by decide +kernel
theorem d_M_small_36 : decode b_M_small 36 = .ok (.iadd, 1) := by decide +kernel
theorem d_M_small_37 : decode b_M_small 37 = .ok (.baload, 1) := by decide +kernel
theorem d_M_small_38 : decode b_M_small 38 = .ok (.sipush 255, 3) := by decide +kernel
theorem d_M_small_41 : decode b_M_small 41 = .ok (.iand, 1) := by decide +kernel
theorem d_M_small_42 : decode b_M_small 42 = .ok (.bipush 24, 2) := by decide +kernel
theorem d_M_small_44 : decode b_M_small 44 = .ok (.ishl, 1) := by decide +kernel
theorem d_M_small_45 : decode b_M_small 45 = .ok (.ior, 1) := by decide +kernel
theorem d_M_small_46 : decode b_M_small 46 = .ok (.ireturn, 1) := by decide +kernel
abbrev rm_M_small : Room := { frames := 0, cells := 0, slots := 0, locals := 0 }
abbrev q_M_small (D : va_G) (cy : Nat → ClassId) (A : Nat → Prop) (b0 : Nat) (n0 : Nat) (h0 : Nat → Int32) (res : Int32) : Array Value → State → Outcome → State → Prop := va_Qi (fun r' (_ : Unit) => r' = res) (fun _ t => Po D cy A [(b0, .inl (cy 0, n0, .inl h0))] t) A
def I_M_small_e (p : Program) (l : Launch) (e : Env) (s : State) (m : MethodId) (args : Array Value) (below : List Frame) (meth : Method) (c : Code) (D : va_G) (cy : Nat → ClassId) (A : Nat → Prop) (ad : Nat → Nat) (b0 : Nat) (n0 : Nat) (h0 : Nat → Int32) (k : Int32 → Option (Int32)) : Prop :=
  ∀ (a1 : Int32) (res : Int32), k a1 = some res → ∀ (H : Heap) (locs : List Loc) (ls : Array Slot), va_P D classes [(b0, .inl (cy 0, n0, .inl h0))] H → va_D A [(b0, .inl (cy 0, n0, .inl h0))] → va_S A s.heap H locs → lv_has ls 2 [(0, .ref b0), (1, .int a1)] → W p l e rm_M_small s m args below meth c H locs 0 0 (MQ below (q_M_small D cy A b0 n0 h0 res) args s 0 0 A) (F0 m 0 ls [])
set_option maxHeartbeats 8000000 in
set_option maxRecDepth 100000 in
theorem we_M_small {p : Program} {l : Launch} {e : Env} {s : State} {m : MethodId} {args : Array Value} {below : List Frame} {meth : Method} {c : Code} {D : va_G} {cy : Nat → ClassId} {A : Nat → Prop} {ad : Nat → Nat} {b0 : Nat} {n0 : Nat} {h0 : Nat → Int32} {fu : Nat} (F : Fx p s m args meth c b_M_small 2 "CoinKeeperModel" "small" (some .int) D cy ad A) : I_M_small_e p l e s m args below meth c D cy A ad b0 n0 h0 (x_M_small fu n0 h0) := by
  obtain ⟨hx, hb, hr, hml, hown, hts, hlocks, hK, hA, hSt, hnm, hex⟩ := id F
  intro a1 res hf H locs ls hP hD hS hl
  unfold x_M_small at hf
  refine lv_aload_n hx hb d_M_small_0 rfl (lv_at hl 0 rfl) ?_
  refine lv_iload_n hx hb d_M_small_1 rfl (lv_at hl 1 rfl) ?_
  obtain ⟨hg, hf⟩ := gdp hf
  refine va_bald hx hb hK hP 0 0 rfl rfl (inb_in hg) d_M_small_2 ?_
  refine lv_topi (fun v1 ev => ?_)
  have hf := bn ev hf
  clear ev
  refine lv_sipush (v := 255) hx hb d_M_small_3 (by decide) ?_
  refine lv_iand hx hb d_M_small_6 ?_
  refine lv_topi (fun v2 ev => ?_)
  have hf := bn ev hf
  clear ev
  refine lv_aload_n hx hb d_M_small_7 rfl (lv_at hl 0 rfl) ?_
  refine lv_iload_n hx hb d_M_small_8 rfl (lv_at hl 1 rfl) ?_
  refine lv_iconst (v := 1) hx hb d_M_small_9 (by decide) ?_
  refine lv_iadd hx hb d_M_small_10 ?_
  refine lv_topi (fun v3 ev => ?_)
  have hf := bn ev hf
  clear ev
  obtain ⟨hg, hf⟩ := gdp hf
  refine va_bald hx hb hK hP 0 0 rfl rfl (inb_in hg) d_M_small_11 ?_
  refine lv_topi (fun v4 ev => ?_)
  have hf := bn ev hf
  clear ev
  refine lv_sipush (v := 255) hx hb d_M_small_12 (by decide) ?_
  refine lv_iand hx hb d_M_small_15 ?_
  refine lv_topi (fun v5 ev => ?_)
  have hf := bn ev hf
  clear ev
  refine lv_bipush (v := 8) hx hb d_M_small_16 (by decide) ?_
  refine lv_ishl hx hb d_M_small_18 ?_
  refine lv_ior hx hb d_M_small_19 ?_
  refine lv_topi (fun v6 ev => ?_)
  have hf := bn ev hf
  clear ev
  refine lv_aload_n hx hb d_M_small_20 rfl (lv_at hl 0 rfl) ?_
  refine lv_iload_n hx hb d_M_small_21 rfl (lv_at hl 1 rfl) ?_
  refine lv_iconst (v := 2) hx hb d_M_small_22 (by decide) ?_
  refine lv_iadd hx hb d_M_small_23 ?_
  refine lv_topi (fun v7 ev => ?_)
  have hf := bn ev hf
  clear ev
  obtain ⟨hg, hf⟩ := gdp hf
  refine va_bald hx hb hK hP 0 0 rfl rfl (inb_in hg) d_M_small_24 ?_
  refine lv_topi (fun v8 ev => ?_)
  have hf := bn ev hf
  clear ev
  refine lv_sipush (v := 255) hx hb d_M_small_25 (by decide) ?_
  refine lv_iand hx hb d_M_small_28 ?_
  refine lv_topi (fun v9 ev => ?_)
  have hf := bn ev hf
  clear ev
  refine lv_bipush (v := 16) hx hb d_M_small_29 (by decide) ?_
  refine lv_ishl hx hb d_M_small_31 ?_
  refine lv_ior hx hb d_M_small_32 ?_
  refine lv_topi (fun v10 ev => ?_)
  have hf := bn ev hf
  clear ev
  refine lv_aload_n hx hb d_M_small_33 rfl (lv_at hl 0 rfl) ?_
  refine lv_iload_n hx hb d_M_small_34 rfl (lv_at hl 1 rfl) ?_
  refine lv_iconst (v := 3) hx hb d_M_small_35 (by decide) ?_
  refine lv_iadd hx hb d_M_small_36 ?_
  refine lv_topi (fun v11 ev => ?_)
  have hf := bn ev hf
  clear ev
  obtain ⟨hg, hf⟩ := gdp hf
  refine va_bald hx hb hK hP 0 0 rfl rfl (inb_in hg) d_M_small_37 ?_
  refine lv_topi (fun v12 ev => ?_)
  have hf := bn ev hf
  clear ev
  refine lv_sipush (v := 255) hx hb d_M_small_38 (by decide) ?_
  refine lv_iand hx hb d_M_small_41 ?_
  refine lv_topi (fun v13 ev => ?_)
  have hf := bn ev hf
  clear ev
  refine lv_bipush (v := 24) hx hb d_M_small_42 (by decide) ?_
  refine lv_ishl hx hb d_M_small_44 ?_
  refine lv_ior hx hb d_M_small_45 ?_
  refine lv_topi (fun v14 ev => ?_)
  have hf := bn ev hf
  clear ev
  obtain rfl := Option.some.inj hf
  exact q_ri hx hb hr hlocks hK hP hD hS d_M_small_46
theorem c_M_small (l : Launch) (D : va_G) (cy : Nat → ClassId) (ad : Nat → Nat) (fu : Nat) (b0 : Nat) (n0 : Nat) (h0 : Nat → Int32) (a1 : Int32) (res : Int32) (hf : x_M_small fu n0 h0 a1 = some res) (sz : Nat) : Met l ({ cls := "CoinKeeperModel", name := "small", desc := "([BI)I" } : Jvm.MethodName) (.code ({ cls := "CoinKeeperModel", name := "small", desc := "([BI)I" } : Jvm.MethodName) b_M_small 2 (some .int) :: gw) rm_M_small (va_Pc [.ref b0, .int a1] (Pr D cy ad [(b0, .inl (cy 0, n0, .inl h0))] sz)) (q_M_small D cy (va_A [(b0, .inl (cy 0, n0, .inl h0))] sz) b0 n0 h0 res) 0 0 (va_A [(b0, .inl (cy 0, n0, .inl h0))] sz) :=
  q_met (Qc := fun A => q_M_small D cy A b0 n0 h0 res) (by decide) rfl rfl (Nat.le_of_ble_eq_true rfl) (fun p e s m below meth c ls F hP hD hS hl => we_M_small (fu := fu) F a1 res hf _ _ _ hP hD hS hl) sz
abbrev b_M_hash : ByteArray := prog_14_method_86_code
theorem d_M_hash_0 : decode b_M_hash 0 = .ok (.aload_n 0, 1) := by decide +kernel
theorem d_M_hash_1 : decode b_M_hash 1 = .ok (.iload_n 1, 1) := by decide +kernel
theorem d_M_hash_2 : decode b_M_hash 2 = .ok (.ifCond .lt 9, 3) := by decide +kernel
theorem d_M_hash_5 : decode b_M_hash 5 = .ok (.iload_n 1, 1) := by decide +kernel
theorem d_M_hash_6 : decode b_M_hash 6 = .ok (.bipush 7, 2) := by decide +kernel
theorem d_M_hash_8 : decode b_M_hash 8 = .ok (.if_icmp .le 7, 3) := by decide +kernel
theorem d_M_hash_11 : decode b_M_hash 11 = .ok (.iconst 1, 1) := by decide +kernel
theorem d_M_hash_12 : decode b_M_hash 12 = .ok (.goto 4, 3) := by decide +kernel
theorem d_M_hash_15 : decode b_M_hash 15 = .ok (.iconst 0, 1) := by decide +kernel
theorem d_M_hash_16 : decode b_M_hash 16 = .ok (.putfield 268, 3) := by decide +kernel
theorem d_M_hash_19 : decode b_M_hash 19 = .ok (.aload_n 0, 1) := by decide +kernel
theorem d_M_hash_20 : decode b_M_hash 20 = .ok (.getfield 268, 3) := by decide +kernel
theorem d_M_hash_23 : decode b_M_hash 23 = .ok (.ifCond .le 5, 3) := by decide +kernel
theorem d_M_hash_26 : decode b_M_hash 26 = .ok (.iconst 0, 1) := by decide +kernel
theorem d_M_hash_27 : decode b_M_hash 27 = .ok (.ireturn, 1) := by decide +kernel
theorem d_M_hash_28 : decode b_M_hash 28 = .ok (.aload_n 0, 1) := by decide +kernel
theorem d_M_hash_29 : decode b_M_hash 29 = .ok (.aload_n 0, 1) := by decide +kernel
theorem d_M_hash_30 : decode b_M_hash 30 = .ok (.getfield 9, 3) := by decide +kernel
theorem d_M_hash_33 : decode b_M_hash 33 = .ok (.iconst 0, 1) := by decide +kernel
theorem d_M_hash_34 : decode b_M_hash 34 = .ok (.aload_n 0, 1) := by decide +kernel
theorem d_M_hash_35 : decode b_M_hash 35 = .ok (.getfield 656, 3) := by decide +kernel
theorem d_M_hash_38 : decode b_M_hash 38 = .ok (.invokevirtual 519, 3) := by decide +kernel
theorem d_M_hash_41 : decode b_M_hash 41 = .ok (.aload_n 0, 1) := by decide +kernel
theorem d_M_hash_42 : decode b_M_hash 42 = .ok (.getfield 123, 3) := by decide +kernel
theorem d_M_hash_45 : decode b_M_hash 45 = .ok (.iconst 4, 1) := by decide +kernel
theorem d_M_hash_46 : decode b_M_hash 46 = .ok (.iload_n 1, 1) := by decide +kernel
theorem d_M_hash_47 : decode b_M_hash 47 = .ok (.imul, 1) := by decide +kernel
theorem d_M_hash_48 : decode b_M_hash 48 = .ok (.invokestatic 309, 3) := by decide +kernel
theorem d_M_hash_51 : decode b_M_hash 51 = .ok (.ireturn, 1) := by decide +kernel
abbrev rm_M_hash : Room := { frames := 3, cells := 0, slots := 0, locals := 86 }
abbrev q_M_hash (D : va_G) (cy : Nat → ClassId) (A : Nat → Prop) (o : Nat) (q : Nat → Nat) (g_row : Nat → Int32) (res : Int32 × (Nat → Int32) × (Nat → Int32) × (Nat → Int32) × (Nat → Int32) × (Nat → Int32)) : Array Value → State → Outcome → State → Prop := va_Qi (fun r' (_ : Unit) => r' = res.1) (fun _ t => Po D cy A [(o, .inr (12, mo q res.2.1)), ((q 0), .inl (cy 0, 3000, .inl g_row)), ((q 34), .inl (cy 1, 8, .inl res.2.2.1)), ((q 35), .inl (cy 1, 64, .inl res.2.2.2.1)), ((q 36), .inl (cy 0, 32, .inl res.2.2.2.2.1)), ((q 37), .inl (cy 0, 100200, .inl res.2.2.2.2.2))] t) A
def I_M_hash_16 (p : Program) (l : Launch) (e : Env) (s : State) (m : MethodId) (args : Array Value) (below : List Frame) (meth : Method) (c : Code) (D : va_G) (cy : Nat → ClassId) (A : Nat → Prop) (ad : Nat → Nat) (o : Nat) (q : Nat → Nat) (g_row : Nat → Int32) (k : Int32 → Int32 → (Nat → Int32) → (Nat → Int32) → (Nat → Int32) → (Nat → Int32) → (Nat → Int32) → Option (Int32 × (Nat → Int32) × (Nat → Int32) × (Nat → Int32) × (Nat → Int32) × (Nat → Int32))) : Prop :=
  ∀ (x1 : Int32) (y0 : Int32) (u0 : Nat → Int32) (u1 : Nat → Int32) (u2 : Nat → Int32) (u3 : Nat → Int32) (u4 : Nat → Int32) (res : Int32 × (Nat → Int32) × (Nat → Int32) × (Nat → Int32) × (Nat → Int32) × (Nat → Int32)), k x1 y0 u0 u1 u2 u3 u4 = some res → ∀ (H : Heap) (locs : List Loc) (ls : Array Slot), va_P D classes [(o, .inr (12, mo q u0)), ((q 0), .inl (cy 0, 3000, .inl g_row)), ((q 34), .inl (cy 1, 8, .inl u1)), ((q 35), .inl (cy 1, 64, .inl u2)), ((q 36), .inl (cy 0, 32, .inl u3)), ((q 37), .inl (cy 0, 100200, .inl u4))] H → va_D A [(o, .inr (12, mo q u0)), ((q 0), .inl (cy 0, 3000, .inl g_row)), ((q 34), .inl (cy 1, 8, .inl u1)), ((q 35), .inl (cy 1, 64, .inl u2)), ((q 36), .inl (cy 0, 32, .inl u3)), ((q 37), .inl (cy 0, 100200, .inl u4))] → va_S A s.heap H locs → lv_has ls 2 [(0, .ref o), (1, .int x1)] → W p l e rm_M_hash s m args below meth c H locs 0 0 (MQ below (q_M_hash D cy A o q g_row res) args s 0 0 A) (F0 m 16 ls [.int y0, .ref o])
def I_M_hash_11 (p : Program) (l : Launch) (e : Env) (s : State) (m : MethodId) (args : Array Value) (below : List Frame) (meth : Method) (c : Code) (D : va_G) (cy : Nat → ClassId) (A : Nat → Prop) (ad : Nat → Nat) (o : Nat) (q : Nat → Nat) (g_row : Nat → Int32) (k : Int32 → (Nat → Int32) → (Nat → Int32) → (Nat → Int32) → (Nat → Int32) → (Nat → Int32) → Option (Int32 × (Nat → Int32) × (Nat → Int32) × (Nat → Int32) × (Nat → Int32) × (Nat → Int32))) : Prop :=
  ∀ (x1 : Int32) (u0 : Nat → Int32) (u1 : Nat → Int32) (u2 : Nat → Int32) (u3 : Nat → Int32) (u4 : Nat → Int32) (res : Int32 × (Nat → Int32) × (Nat → Int32) × (Nat → Int32) × (Nat → Int32) × (Nat → Int32)), k x1 u0 u1 u2 u3 u4 = some res → ∀ (H : Heap) (locs : List Loc) (ls : Array Slot), va_P D classes [(o, .inr (12, mo q u0)), ((q 0), .inl (cy 0, 3000, .inl g_row)), ((q 34), .inl (cy 1, 8, .inl u1)), ((q 35), .inl (cy 1, 64, .inl u2)), ((q 36), .inl (cy 0, 32, .inl u3)), ((q 37), .inl (cy 0, 100200, .inl u4))] H → va_D A [(o, .inr (12, mo q u0)), ((q 0), .inl (cy 0, 3000, .inl g_row)), ((q 34), .inl (cy 1, 8, .inl u1)), ((q 35), .inl (cy 1, 64, .inl u2)), ((q 36), .inl (cy 0, 32, .inl u3)), ((q 37), .inl (cy 0, 100200, .inl u4))] → va_S A s.heap H locs → lv_has ls 2 [(0, .ref o), (1, .int x1)] → W p l e rm_M_hash s m args below meth c H locs 0 0 (MQ below (q_M_hash D cy A o q g_row res) args s 0 0 A) (F0 m 11 ls [.ref o])
def I_M_hash_e (p : Program) (l : Launch) (e : Env) (s : State) (m : MethodId) (args : Array Value) (below : List Frame) (meth : Method) (c : Code) (D : va_G) (cy : Nat → ClassId) (A : Nat → Prop) (ad : Nat → Nat) (o : Nat) (q : Nat → Nat) (g_row : Nat → Int32) (k : Int32 → (Nat → Int32) → (Nat → Int32) → (Nat → Int32) → (Nat → Int32) → (Nat → Int32) → Option (Int32 × (Nat → Int32) × (Nat → Int32) × (Nat → Int32) × (Nat → Int32) × (Nat → Int32))) : Prop :=
  ∀ (a1 : Int32) (u0 : Nat → Int32) (u1 : Nat → Int32) (u2 : Nat → Int32) (u3 : Nat → Int32) (u4 : Nat → Int32) (res : Int32 × (Nat → Int32) × (Nat → Int32) × (Nat → Int32) × (Nat → Int32) × (Nat → Int32)), k a1 u0 u1 u2 u3 u4 = some res → ∀ (H : Heap) (locs : List Loc) (ls : Array Slot), va_P D classes [(o, .inr (12, mo q u0)), ((q 0), .inl (cy 0, 3000, .inl g_row)), ((q 34), .inl (cy 1, 8, .inl u1)), ((q 35), .inl (cy 1, 64, .inl u2)), ((q 36), .inl (cy 0, 32, .inl u3)), ((q 37), .inl (cy 0, 100200, .inl u4))] H → va_D A [(o, .inr (12, mo q u0)), ((q 0), .inl (cy 0, 3000, .inl g_row)), ((q 34), .inl (cy 1, 8, .inl u1)), ((q 35), .inl (cy 1, 64, .inl u2)), ((q 36), .inl (cy 0, 32, .inl u3)), ((q 37), .inl (cy 0, 100200, .inl u4))] → va_S A s.heap H locs → lv_has ls 2 [(0, .ref o), (1, .int a1)] → W p l e rm_M_hash s m args below meth c H locs 0 0 (MQ below (q_M_hash D cy A o q g_row res) args s 0 0 A) (F0 m 0 ls [])
theorem hdm_3 : ({ cls := "CoinKeeperModel", name := "twice", desc := "([BII)V" } : Jvm.MethodName).cls ≠ "java/lang/invoke/MethodHandle" ∧ ({ cls := "CoinKeeperModel", name := "twice", desc := "([BII)V" } : Jvm.MethodName).cls ≠ "java/lang/invoke/VarHandle" ∧ (parseMethodDescriptor ({ cls := "CoinKeeperModel", name := "twice", desc := "([BII)V" } : Jvm.MethodName).desc).map (fun d => d.parameters.length) = some 3 := by decide +kernel
theorem hdm_4 : ({ cls := "CoinKeeperModel", name := "small", desc := "([BI)I" } : Jvm.MethodName).cls ≠ "java/lang/invoke/MethodHandle" ∧ ({ cls := "CoinKeeperModel", name := "small", desc := "([BI)I" } : Jvm.MethodName).cls ≠ "java/lang/invoke/VarHandle" ∧ (parseMethodDescriptor ({ cls := "CoinKeeperModel", name := "small", desc := "([BI)I" } : Jvm.MethodName).desc).map (fun d => d.parameters.length) = some 2 := by decide +kernel
set_option maxHeartbeats 8000000 in
set_option maxRecDepth 100000 in
theorem wb_M_hash_16 {p : Program} {l : Launch} {e : Env} {s : State} {m : MethodId} {args : Array Value} {below : List Frame} {meth : Method} {c : Code} {D : va_G} {cy : Nat → ClassId} {A : Nat → Prop} {ad : Nat → Nat} {o : Nat} {q : Nat → Nat} {g_row : Nat → Int32} {fu : Nat} (F : Fx p s m args meth c b_M_hash 2 "CoinKeeperModel" "hash" (some .int) D cy ad A) : I_M_hash_16 p l e s m args below meth c D cy A ad o q g_row (xb_M_hash_16 fu g_row) := by
  obtain ⟨hx, hb, hr, hml, hown, hts, hlocks, hK, hA, hSt, hnm, hex⟩ := id F
  intro x1 y0 u0 u1 u2 u3 u4 res hf H locs ls hP hD hS hl
  unfold xb_M_hash_16 at hf
  refine va_put (D := D) (ci := 12) (v := .int y0) (ty := .int) (C := "CoinKeeperModel") (T := F_12) (N := 98) hx hb hts i_12 t_12 t_12_ok n_12 hown hK hP hD hS 0 rfl rfl 4 (by decide) (hts _ gw_1423) (fun _ h9 => h9) rfl (by decide +kernel) rfl rfl (Nat.le_of_ble_eq_true rfl) d_M_hash_16 (fun H locs hP hD hS => ?_)
  obtain ⟨z1, ev, hf⟩ := bne hf
  have hP : va_P D classes [(o, .inr (12, mo q z1)), ((q 0), .inl (cy 0, 3000, .inl g_row)), ((q 34), .inl (cy 1, 8, .inl u1)), ((q 35), .inl (cy 1, 64, .inl u2)), ((q 36), .inl (cy 0, 32, .inl u3)), ((q 37), .inl (cy 0, 100200, .inl u4))] H := by rw [ev]; exact hP
  have hD : va_D A [(o, .inr (12, mo q z1)), ((q 0), .inl (cy 0, 3000, .inl g_row)), ((q 34), .inl (cy 1, 8, .inl u1)), ((q 35), .inl (cy 1, 64, .inl u2)), ((q 36), .inl (cy 0, 32, .inl u3)), ((q 37), .inl (cy 0, 100200, .inl u4))] := by rw [ev]; exact hD
  clear ev
  refine lv_aload_n hx hb d_M_hash_19 rfl (lv_at hl 0 rfl) ?_
  refine va_get (D := D) (ci := 12) (v := .int (z1 2)) (C := "CoinKeeperModel") (T := F_12) (N := 98) hx hb hts i_12 hown hK hP 0 rfl rfl 4 (by decide) (hts _ gw_1423) (fun _ h9 => h9) rfl d_M_hash_20 ?_
  refine lv_if_le (tgt := 28) hx hb d_M_hash_23 (by decide) (fun cx => ?_) (fun cx => ?_)
  · have hf := ifp cx hf
    refine lv_aload_n hx hb d_M_hash_28 rfl (lv_at hl 0 rfl) ?_
    refine lv_aload_n hx hb d_M_hash_29 rfl (lv_at hl 0 rfl) ?_
    refine va_get (D := D) (ci := 12) (v := .ref (q 0)) (C := "CoinKeeperModel") (T := F_12) (N := 98) hx hb hts i_12 hown hK hP 0 rfl rfl 0 (by decide) (hts _ gw_1419) (fun _ h9 => h9) rfl d_M_hash_30 ?_
    refine lv_iconst (v := 0) hx hb d_M_hash_33 (by decide) ?_
    refine lv_aload_n hx hb d_M_hash_34 rfl (lv_at hl 0 rfl) ?_
    refine va_get (D := D) (ci := 12) (v := .int (z1 0)) (C := "CoinKeeperModel") (T := F_12) (N := 98) hx hb hts i_12 hown hK hP 0 rfl rfl 2 (by decide) (hts _ gw_1421) (fun _ h9 => h9) rfl d_M_hash_35 ?_
    obtain ⟨f2, f3, f4, f5, hc, hf⟩ := bdp4 hf
    refine q_av (wr := []) (va_runV (C := "CoinKeeperModel") (As := [.ref (q 0), .int (0 : Int32), .int (z1 0)]) (rest := []) ⟨hx, hb, hml, hown, hts⟩ (c_M_twice l D cy ad fu o q (q 0) z1 3000 g_row (0 : Int32) (z1 0) u1 u2 u3 u4 _ hc H.size) ⟨q_cB hts gw_1761 gw_18 gw_1758 hdm_3 ⟨by decide, by decide⟩, hts _ gw_1760, hts _ gs_72⟩ (q_preV (q_pre (hP.sub [0, 2, 3, 4, 5, 1] rfl) (hD.sub [0, 2, 3, 4, 5, 1] (by decide) rfl) hK hSt hS (va_free hD hS hA [0, 2, 3, 4, 5, 1] rfl) _) (va_recv hK (hP.sub [0, 2, 3, 4, 5, 1] rfl) (ci := 12) (q0 := 0) rfl rfl)) rfl rfl hl.1 rfl (lv_room (Nat.le_of_ble_eq_true rfl)) d_M_hash_38 ⟨Nat.le_of_ble_eq_true rfl, Nat.le_of_ble_eq_true rfl⟩) hP hD hS hA [0, 2, 3, 4, 5, 1] [] rfl rfl (by decide) (by decide) (fun H locs hP hD hS => ?_)
    clear hc
    have hP : va_P D classes [(o, .inr (12, mo q z1)), ((q 34), .inl (cy 1, 8, .inl f2)), ((q 35), .inl (cy 1, 64, .inl f3)), ((q 36), .inl (cy 0, 32, .inl f4)), ((q 37), .inl (cy 0, 100200, .inl f5)), ((q 0), .inl (cy 0, 3000, .inl g_row))] H := hP
    have hD : va_D A [(o, .inr (12, mo q z1)), ((q 34), .inl (cy 1, 8, .inl f2)), ((q 35), .inl (cy 1, 64, .inl f3)), ((q 36), .inl (cy 0, 32, .inl f4)), ((q 37), .inl (cy 0, 100200, .inl f5)), ((q 0), .inl (cy 0, 3000, .inl g_row))] := hD
    refine lv_aload_n hx hb d_M_hash_41 rfl (lv_at hl 0 rfl) ?_
    refine va_get (D := D) (ci := 12) (v := .ref (q 36)) (C := "CoinKeeperModel") (T := F_12) (N := 98) hx hb hts i_12 hown hK hP 0 rfl rfl 44 (by decide) (hts _ gw_1463) (fun _ h9 => h9) rfl d_M_hash_42 ?_
    refine lv_iconst (v := 4) hx hb d_M_hash_45 (by decide) ?_
    refine lv_iload_n hx hb d_M_hash_46 rfl (lv_at hl 1 rfl) ?_
    refine lv_imul hx hb d_M_hash_47 ?_
    refine lv_topi (fun v6 ev => ?_)
    have hf := bn ev hf
    clear ev
    obtain ⟨v7, hc, hf⟩ := bdp1 hf
    refine q_ai (wr := [(o, .inr (12, mo q z1)), ((q 34), .inl (cy 1, 8, .inl f2)), ((q 35), .inl (cy 1, 64, .inl f3)), ((q 37), .inl (cy 0, 100200, .inl f5)), ((q 0), .inl (cy 0, 3000, .inl g_row))]) (va_runS (As := [.ref (q 36), .int v6]) (rest := []) ⟨hx, hb, hml, hown, hts⟩ (c_M_small l D cy ad fu (q 36) 32 f4 v6 _ hc H.size) ⟨q_cB hts gw_1779 gw_18 gw_1777 hdm_4 ⟨by decide, by decide⟩, hts _ gw_1778⟩ (q_pre (hP.sub [3] rfl) (hD.sub [3] (by decide) rfl) hK hSt hS (va_free hD hS hA [3] rfl) _) rfl rfl hl.1 rfl (lv_room (Nat.le_of_ble_eq_true rfl)) d_M_hash_48 ⟨Nat.le_of_ble_eq_true rfl, Nat.le_of_ble_eq_true rfl⟩) hP hD hS hA [3] [0, 1, 2, 4, 5] rfl rfl (by decide) (by decide) (fun H locs hP hD hS => ?_)
    clear hc
    have hP : va_P D classes [(o, .inr (12, mo q z1)), ((q 34), .inl (cy 1, 8, .inl f2)), ((q 35), .inl (cy 1, 64, .inl f3)), ((q 37), .inl (cy 0, 100200, .inl f5)), ((q 0), .inl (cy 0, 3000, .inl g_row)), ((q 36), .inl (cy 0, 32, .inl f4))] H := hP
    have hD : va_D A [(o, .inr (12, mo q z1)), ((q 34), .inl (cy 1, 8, .inl f2)), ((q 35), .inl (cy 1, 64, .inl f3)), ((q 37), .inl (cy 0, 100200, .inl f5)), ((q 0), .inl (cy 0, 3000, .inl g_row)), ((q 36), .inl (cy 0, 32, .inl f4))] := hD
    obtain rfl := Option.some.inj hf
    exact q_ri hx hb hr hlocks hK (hP.sub [0, 4, 1, 2, 5, 3] rfl) (hD.sub [0, 4, 1, 2, 5, 3] (by decide) rfl) hS d_M_hash_51
  · have hf := ifn cx hf
    refine lv_iconst (v := 0) hx hb d_M_hash_26 (by decide) ?_
    obtain rfl := Option.some.inj hf
    exact q_ri hx hb hr hlocks hK hP hD hS d_M_hash_27
set_option maxHeartbeats 8000000 in
set_option maxRecDepth 100000 in
theorem wb_M_hash_11 {p : Program} {l : Launch} {e : Env} {s : State} {m : MethodId} {args : Array Value} {below : List Frame} {meth : Method} {c : Code} {D : va_G} {cy : Nat → ClassId} {A : Nat → Prop} {ad : Nat → Nat} {o : Nat} {q : Nat → Nat} {g_row : Nat → Int32} {fu : Nat} (F : Fx p s m args meth c b_M_hash 2 "CoinKeeperModel" "hash" (some .int) D cy ad A) : I_M_hash_11 p l e s m args below meth c D cy A ad o q g_row (xb_M_hash_11 fu g_row) := by
  obtain ⟨hx, hb, hr, hml, hown, hts, hlocks, hK, hA, hSt, hnm, hex⟩ := id F
  intro x1 u0 u1 u2 u3 u4 res hf H locs ls hP hD hS hl
  unfold xb_M_hash_11 at hf
  refine lv_iconst (v := 1) hx hb d_M_hash_11 (by decide) ?_
  refine lv_goto (tgt := 16) hx hb d_M_hash_12 (by decide) ?_
  exact wb_M_hash_16 (fu := fu) F _ _ _ _ _ _ _ _ hf _ _ _ hP hD hS (lv_sub hl [0, 1] rfl)
set_option maxHeartbeats 8000000 in
set_option maxRecDepth 100000 in
theorem we_M_hash {p : Program} {l : Launch} {e : Env} {s : State} {m : MethodId} {args : Array Value} {below : List Frame} {meth : Method} {c : Code} {D : va_G} {cy : Nat → ClassId} {A : Nat → Prop} {ad : Nat → Nat} {o : Nat} {q : Nat → Nat} {g_row : Nat → Int32} {fu : Nat} (F : Fx p s m args meth c b_M_hash 2 "CoinKeeperModel" "hash" (some .int) D cy ad A) : I_M_hash_e p l e s m args below meth c D cy A ad o q g_row (x_M_hash fu g_row) := by
  obtain ⟨hx, hb, hr, hml, hown, hts, hlocks, hK, hA, hSt, hnm, hex⟩ := id F
  intro a1 u0 u1 u2 u3 u4 res hf H locs ls hP hD hS hl
  unfold x_M_hash at hf
  refine lv_aload_n hx hb d_M_hash_0 rfl (lv_at hl 0 rfl) ?_
  refine lv_iload_n hx hb d_M_hash_1 rfl (lv_at hl 1 rfl) ?_
  refine lv_if_lt (tgt := 11) hx hb d_M_hash_2 (by decide) (fun cx => ?_) (fun cx => ?_)
  · have hf := ifp cx hf
    exact wb_M_hash_11 (fu := fu) F _ _ _ _ _ _ _ hf _ _ _ hP hD hS (lv_sub hl [0, 1] rfl)
  · have hf := ifn cx hf
    refine lv_iload_n hx hb d_M_hash_5 rfl (lv_at hl 1 rfl) ?_
    refine lv_bipush (v := 7) hx hb d_M_hash_6 (by decide) ?_
    refine lv_icmp_le (tgt := 15) hx hb d_M_hash_8 (by decide) (fun cx => ?_) (fun cx => ?_)
    · have hf := ifp cx hf
      refine lv_iconst (v := 0) hx hb d_M_hash_15 (by decide) ?_
      exact wb_M_hash_16 (fu := fu) F _ _ _ _ _ _ _ _ hf _ _ _ hP hD hS (lv_sub hl [0, 1] rfl)
    · have hf := ifn cx hf
      exact wb_M_hash_11 (fu := fu) F _ _ _ _ _ _ _ hf _ _ _ hP hD hS (lv_sub hl [0, 1] rfl)
theorem c_M_hash (l : Launch) (D : va_G) (cy : Nat → ClassId) (ad : Nat → Nat) (fu : Nat) (o : Nat) (q : Nat → Nat) (g_row : Nat → Int32) (a1 : Int32) (u0 : Nat → Int32) (u1 : Nat → Int32) (u2 : Nat → Int32) (u3 : Nat → Int32) (u4 : Nat → Int32) (res : Int32 × (Nat → Int32) × (Nat → Int32) × (Nat → Int32) × (Nat → Int32) × (Nat → Int32)) (hf : x_M_hash fu g_row a1 u0 u1 u2 u3 u4 = some res) (sz : Nat) : Met l ({ cls := "CoinKeeperModel", name := "hash", desc := "(I)I" } : Jvm.MethodName) (.code ({ cls := "CoinKeeperModel", name := "hash", desc := "(I)I" } : Jvm.MethodName) b_M_hash 2 (some .int) :: gw) rm_M_hash (va_Pc [.ref o, .int a1] (Pr D cy ad [(o, .inr (12, mo q u0)), ((q 0), .inl (cy 0, 3000, .inl g_row)), ((q 34), .inl (cy 1, 8, .inl u1)), ((q 35), .inl (cy 1, 64, .inl u2)), ((q 36), .inl (cy 0, 32, .inl u3)), ((q 37), .inl (cy 0, 100200, .inl u4))] sz)) (q_M_hash D cy (va_A [(o, .inr (12, mo q u0)), ((q 0), .inl (cy 0, 3000, .inl g_row)), ((q 34), .inl (cy 1, 8, .inl u1)), ((q 35), .inl (cy 1, 64, .inl u2)), ((q 36), .inl (cy 0, 32, .inl u3)), ((q 37), .inl (cy 0, 100200, .inl u4))] sz) o q g_row res) 0 0 (va_A [(o, .inr (12, mo q u0)), ((q 0), .inl (cy 0, 3000, .inl g_row)), ((q 34), .inl (cy 1, 8, .inl u1)), ((q 35), .inl (cy 1, 64, .inl u2)), ((q 36), .inl (cy 0, 32, .inl u3)), ((q 37), .inl (cy 0, 100200, .inl u4))] sz) :=
  q_met (Qc := fun A => q_M_hash D cy A o q g_row res) (by decide) rfl rfl (Nat.le_of_ble_eq_true rfl) (fun p e s m below meth c ls F hP hD hS hl => we_M_hash (fu := fu) F a1 u0 u1 u2 u3 u4 res hf _ _ _ hP hD hS hl) sz
abbrev b_M_four : ByteArray := prog_14_method_82_code
theorem d_M_four_0 : decode b_M_four 0 = .ok (.bipush 24, 2) := by decide +kernel
theorem d_M_four_2 : decode b_M_four 2 = .ok (.istore_n 2, 1) := by decide +kernel
theorem d_M_four_3 : decode b_M_four 3 = .ok (.iload_n 2, 1) := by decide +kernel
theorem d_M_four_4 : decode b_M_four 4 = .ok (.ifCond .lt 29, 3) := by decide +kernel
theorem d_M_four_7 : decode b_M_four 7 = .ok (.aload_n 0, 1) := by decide +kernel
theorem d_M_four_8 : decode b_M_four 8 = .ok (.getfield 9, 3) := by decide +kernel
theorem d_M_four_11 : decode b_M_four 11 = .ok (.aload_n 0, 1) := by decide +kernel
theorem d_M_four_12 : decode b_M_four 12 = .ok (.dup, 1) := by decide +kernel
theorem d_M_four_13 : decode b_M_four 13 = .ok (.getfield 656, 3) := by decide +kernel
theorem d_M_four_16 : decode b_M_four 16 = .ok (.dup_x1, 1) := by decide +kernel
theorem d_M_four_17 : decode b_M_four 17 = .ok (.iconst 1, 1) := by decide +kernel
theorem d_M_four_18 : decode b_M_four 18 = .ok (.iadd, 1) := by decide +kernel
theorem d_M_four_19 : decode b_M_four 19 = .ok (.putfield 656, 3) := by decide +kernel
theorem d_M_four_22 : decode b_M_four 22 = .ok (.iload_n 1, 1) := by decide +kernel
theorem d_M_four_23 : decode b_M_four 23 = .ok (.iload_n 2, 1) := by decide +kernel
theorem d_M_four_24 : decode b_M_four 24 = .ok (.ishr, 1) := by decide +kernel
theorem d_M_four_25 : decode b_M_four 25 = .ok (.i2b, 1) := by decide +kernel
theorem d_M_four_26 : decode b_M_four 26 = .ok (.bastore, 1) := by decide +kernel
theorem d_M_four_27 : decode b_M_four 27 = .ok (.iinc 2 (-8), 3) := by decide +kernel
theorem d_M_four_30 : decode b_M_four 30 = .ok (.goto (-27), 3) := by decide +kernel
theorem d_M_four_33 : decode b_M_four 33 = .ok (.return_, 1) := by decide +kernel
abbrev rm_M_four : Room := { frames := 0, cells := 0, slots := 0, locals := 0 }
abbrev q_M_four (D : va_G) (cy : Nat → ClassId) (A : Nat → Prop) (o : Nat) (q : Nat → Nat) (res : (Nat → Int32) × (Nat → Int32)) : Array Value → State → Outcome → State → Prop := va_Qv (fun (_ : Unit) => True) (fun _ t => Po D cy A [(o, .inr (12, mo q res.1)), ((q 0), .inl (cy 0, 3000, .inl res.2))] t) A
def I_M_four_3 (p : Program) (l : Launch) (e : Env) (s : State) (m : MethodId) (args : Array Value) (below : List Frame) (meth : Method) (c : Code) (D : va_G) (cy : Nat → ClassId) (A : Nat → Prop) (ad : Nat → Nat) (o : Nat) (q : Nat → Nat) (k : Int32 → Int32 → (Nat → Int32) → (Nat → Int32) → Option ((Nat → Int32) × (Nat → Int32))) : Prop :=
  ∀ (x1 : Int32) (x2 : Int32) (u0 : Nat → Int32) (u1 : Nat → Int32) (res : (Nat → Int32) × (Nat → Int32)), k x1 x2 u0 u1 = some res → ∀ (H : Heap) (locs : List Loc) (ls : Array Slot), va_P D classes [(o, .inr (12, mo q u0)), ((q 0), .inl (cy 0, 3000, .inl u1))] H → va_D A [(o, .inr (12, mo q u0)), ((q 0), .inl (cy 0, 3000, .inl u1))] → va_S A s.heap H locs → lv_has ls 3 [(0, .ref o), (1, .int x1), (2, .int x2)] → W p l e rm_M_four s m args below meth c H locs 0 0 (MQ below (q_M_four D cy A o q res) args s 0 0 A) (F0 m 3 ls [])
def I_M_four_e (p : Program) (l : Launch) (e : Env) (s : State) (m : MethodId) (args : Array Value) (below : List Frame) (meth : Method) (c : Code) (D : va_G) (cy : Nat → ClassId) (A : Nat → Prop) (ad : Nat → Nat) (o : Nat) (q : Nat → Nat) (k : Int32 → (Nat → Int32) → (Nat → Int32) → Option ((Nat → Int32) × (Nat → Int32))) : Prop :=
  ∀ (a1 : Int32) (u0 : Nat → Int32) (u1 : Nat → Int32) (res : (Nat → Int32) × (Nat → Int32)), k a1 u0 u1 = some res → ∀ (H : Heap) (locs : List Loc) (ls : Array Slot), va_P D classes [(o, .inr (12, mo q u0)), ((q 0), .inl (cy 0, 3000, .inl u1))] H → va_D A [(o, .inr (12, mo q u0)), ((q 0), .inl (cy 0, 3000, .inl u1))] → va_S A s.heap H locs → lv_has ls 3 [(0, .ref o), (1, .int a1)] → W p l e rm_M_four s m args below meth c H locs 0 0 (MQ below (q_M_four D cy A o q res) args s 0 0 A) (F0 m 0 ls [])
set_option maxHeartbeats 8000000 in
set_option maxRecDepth 100000 in
theorem wb_M_four_3 {p : Program} {l : Launch} {e : Env} {s : State} {m : MethodId} {args : Array Value} {below : List Frame} {meth : Method} {c : Code} {D : va_G} {cy : Nat → ClassId} {A : Nat → Prop} {ad : Nat → Nat} {o : Nat} {q : Nat → Nat} {fu : Nat} {k_3 : Int32 → Int32 → (Nat → Int32) → (Nat → Int32) → Option ((Nat → Int32) × (Nat → Int32))} (F : Fx p s m args meth c b_M_four 3 "CoinKeeperModel" "four" none D cy ad A) (hk_3 : I_M_four_3 p l e s m args below meth c D cy A ad o q k_3) : I_M_four_3 p l e s m args below meth c D cy A ad o q (xb_M_four_3 fu k_3) := by
  obtain ⟨hx, hb, hr, hml, hown, hts, hlocks, hK, hA, hSt, hnm, hex⟩ := id F
  intro x1 x2 u0 u1 res hf H locs ls hP hD hS hl
  unfold xb_M_four_3 at hf
  refine lv_iload_n hx hb d_M_four_3 rfl (lv_at hl 2 rfl) ?_
  refine lv_if_lt (tgt := 33) hx hb d_M_four_4 (by decide) (fun cx => ?_) (fun cx => ?_)
  · have hf := ifp cx hf
    obtain rfl := Option.some.inj hf
    exact q_rv hx hb hr hlocks hK hP hD hS d_M_four_33
  · have hf := ifn cx hf
    refine lv_aload_n hx hb d_M_four_7 rfl (lv_at hl 0 rfl) ?_
    refine va_get (D := D) (ci := 12) (v := .ref (q 0)) (C := "CoinKeeperModel") (T := F_12) (N := 98) hx hb hts i_12 hown hK hP 0 rfl rfl 0 (by decide) (hts _ gw_1419) (fun _ h9 => h9) rfl d_M_four_8 ?_
    refine lv_aload_n hx hb d_M_four_11 rfl (lv_at hl 0 rfl) ?_
    refine lv_dup hx hb d_M_four_12 rfl ?_
    refine va_get (D := D) (ci := 12) (v := .int (u0 0)) (C := "CoinKeeperModel") (T := F_12) (N := 98) hx hb hts i_12 hown hK hP 0 rfl rfl 2 (by decide) (hts _ gw_1421) (fun _ h9 => h9) rfl d_M_four_13 ?_
    refine lv_dup_x1 hx hb d_M_four_16 rfl rfl ?_
    refine lv_iconst (v := 1) hx hb d_M_four_17 (by decide) ?_
    refine lv_iadd hx hb d_M_four_18 ?_
    refine lv_topi (fun v1 ev => ?_)
    have hf := bn ev hf
    clear ev
    refine va_put (D := D) (ci := 12) (v := .int v1) (ty := .int) (C := "CoinKeeperModel") (T := F_12) (N := 98) hx hb hts i_12 t_12 t_12_ok n_12 hown hK hP hD hS 0 rfl rfl 2 (by decide) (hts _ gw_1421) (fun _ h9 => h9) rfl (by decide +kernel) rfl rfl (Nat.le_of_ble_eq_true rfl) d_M_four_19 (fun H locs hP hD hS => ?_)
    obtain ⟨z2, ev, hf⟩ := bne hf
    have hP : va_P D classes [(o, .inr (12, mo q z2)), ((q 0), .inl (cy 0, 3000, .inl u1))] H := by rw [ev]; exact hP
    have hD : va_D A [(o, .inr (12, mo q z2)), ((q 0), .inl (cy 0, 3000, .inl u1))] := by rw [ev]; exact hD
    clear ev
    refine lv_iload_n hx hb d_M_four_22 rfl (lv_at hl 1 rfl) ?_
    refine lv_iload_n hx hb d_M_four_23 rfl (lv_at hl 2 rfl) ?_
    refine lv_ishr hx hb d_M_four_24 ?_
    refine lv_i2b hx hb d_M_four_25 rfl ?_
    refine lv_topi (fun v3 ev => ?_)
    have hf := bn ev hf
    clear ev
    obtain ⟨hg, hf⟩ := gdp hf
    refine va_bast hx hb hK hP hD hS 1 0 rfl rfl (inb_in hg) d_M_four_26 (fun H locs hP hD hS => ?_)
    obtain ⟨f4, ev, hf⟩ := bne hf
    have hP : va_P D classes [(o, .inr (12, mo q z2)), ((q 0), .inl (cy 0, 3000, .inl f4))] H := by rw [ev]; exact hP
    have hD : va_D A [(o, .inr (12, mo q z2)), ((q 0), .inl (cy 0, 3000, .inl f4))] := by rw [ev]; exact hD
    clear ev
    obtain ⟨v5, ev, hf⟩ := bne hf
    refine lv_iinc (v := v5) (lv' := [(2, .int v5), (0, .ref o), (1, .int x1)]) hx hb d_M_four_27 hl (k := 2) rfl (by rw [ev]; rfl) (by decide) rfl (fun ls hl => ?_)
    clear ev
    refine lv_goto (tgt := 3) hx hb d_M_four_30 (by decide) ?_
    exact hk_3 _ _ _ _ _ hf _ _ _ hP hD hS (lv_sub hl [1, 2, 0] rfl)
theorem w_M_four_3 {p : Program} {l : Launch} {e : Env} {s : State} {m : MethodId} {args : Array Value} {below : List Frame} {meth : Method} {c : Code} {D : va_G} {cy : Nat → ClassId} {A : Nat → Prop} {ad : Nat → Nat} {o : Nat} {q : Nat → Nat} {fu : Nat} (F : Fx p s m args meth c b_M_four 3 "CoinKeeperModel" "four" none D cy ad A) : ∀ n : Nat, I_M_four_3 p l e s m args below meth c D cy A ad o q (x_M_four_3 fu n)
  | 0 => fun _ _ _ _ _ hf => nomatch (show (none : Option ((Nat → Int32) × (Nat → Int32))) = some _ from hf)
  | n + 1 => wb_M_four_3 F (w_M_four_3 F n)
set_option maxHeartbeats 8000000 in
set_option maxRecDepth 100000 in
theorem we_M_four {p : Program} {l : Launch} {e : Env} {s : State} {m : MethodId} {args : Array Value} {below : List Frame} {meth : Method} {c : Code} {D : va_G} {cy : Nat → ClassId} {A : Nat → Prop} {ad : Nat → Nat} {o : Nat} {q : Nat → Nat} {fu : Nat} (F : Fx p s m args meth c b_M_four 3 "CoinKeeperModel" "four" none D cy ad A) : I_M_four_e p l e s m args below meth c D cy A ad o q (x_M_four fu) := by
  obtain ⟨hx, hb, hr, hml, hown, hts, hlocks, hK, hA, hSt, hnm, hex⟩ := id F
  intro a1 u0 u1 res hf H locs ls hP hD hS hl
  unfold x_M_four at hf
  refine lv_bipush (v := 24) hx hb d_M_four_0 (by decide) ?_
  refine lv_istore_n (lv' := [(2, .int (24 : Int32)), (0, .ref o), (1, .int a1)]) hx hb d_M_four_2 rfl hl (by decide) rfl (fun ls hl => ?_)
  exact w_M_four_3 F fu _ _ _ _ _ hf _ _ _ hP hD hS (lv_sub hl [1, 2, 0] rfl)
theorem c_M_four (l : Launch) (D : va_G) (cy : Nat → ClassId) (ad : Nat → Nat) (fu : Nat) (o : Nat) (q : Nat → Nat) (a1 : Int32) (u0 : Nat → Int32) (u1 : Nat → Int32) (res : (Nat → Int32) × (Nat → Int32)) (hf : x_M_four fu a1 u0 u1 = some res) (sz : Nat) : Met l ({ cls := "CoinKeeperModel", name := "four", desc := "(I)V" } : Jvm.MethodName) (.code ({ cls := "CoinKeeperModel", name := "four", desc := "(I)V" } : Jvm.MethodName) b_M_four 3 none :: gw) rm_M_four (va_Pc [.ref o, .int a1] (Pr D cy ad [(o, .inr (12, mo q u0)), ((q 0), .inl (cy 0, 3000, .inl u1))] sz)) (q_M_four D cy (va_A [(o, .inr (12, mo q u0)), ((q 0), .inl (cy 0, 3000, .inl u1))] sz) o q res) 0 0 (va_A [(o, .inr (12, mo q u0)), ((q 0), .inl (cy 0, 3000, .inl u1))] sz) :=
  q_met (Qc := fun A => q_M_four D cy A o q res) (by decide) rfl rfl (Nat.le_of_ble_eq_true rfl) (fun p e s m below meth c ls F hP hD hS hl => we_M_four (fu := fu) F a1 u0 u1 res hf _ _ _ hP hD hS hl) sz
abbrev b_M_feed : ByteArray := prog_14_method_81_code
theorem d_M_feed_0 : decode b_M_feed 0 = .ok (.aload_n 0, 1) := by decide +kernel
theorem d_M_feed_1 : decode b_M_feed 1 = .ok (.aload_n 0, 1) := by decide +kernel
theorem d_M_feed_2 : decode b_M_feed 2 = .ok (.getfield 656, 3) := by decide +kernel
theorem d_M_feed_5 : decode b_M_feed 5 = .ok (.bipush 20, 2) := by decide +kernel
theorem d_M_feed_7 : decode b_M_feed 7 = .ok (.iadd, 1) := by decide +kernel
theorem d_M_feed_8 : decode b_M_feed 8 = .ok (.sipush 3000, 3) := by decide +kernel
theorem d_M_feed_11 : decode b_M_feed 11 = .ok (.if_icmp .le 7, 3) := by decide +kernel
theorem d_M_feed_14 : decode b_M_feed 14 = .ok (.iconst 1, 1) := by decide +kernel
theorem d_M_feed_15 : decode b_M_feed 15 = .ok (.goto 4, 3) := by decide +kernel
theorem d_M_feed_18 : decode b_M_feed 18 = .ok (.iconst 0, 1) := by decide +kernel
theorem d_M_feed_19 : decode b_M_feed 19 = .ok (.putfield 268, 3) := by decide +kernel
theorem d_M_feed_22 : decode b_M_feed 22 = .ok (.aload_n 0, 1) := by decide +kernel
theorem d_M_feed_23 : decode b_M_feed 23 = .ok (.getfield 268, 3) := by decide +kernel
theorem d_M_feed_26 : decode b_M_feed 26 = .ok (.ifCond .le 5, 3) := by decide +kernel
theorem d_M_feed_29 : decode b_M_feed 29 = .ok (.iconst 0, 1) := by decide +kernel
theorem d_M_feed_30 : decode b_M_feed 30 = .ok (.ireturn, 1) := by decide +kernel
theorem d_M_feed_31 : decode b_M_feed 31 = .ok (.aload_n 0, 1) := by decide +kernel
theorem d_M_feed_32 : decode b_M_feed 32 = .ok (.iload_n 1, 1) := by decide +kernel
theorem d_M_feed_33 : decode b_M_feed 33 = .ok (.invokevirtual 659, 3) := by decide +kernel
theorem d_M_feed_36 : decode b_M_feed 36 = .ok (.aload_n 0, 1) := by decide +kernel
theorem d_M_feed_37 : decode b_M_feed 37 = .ok (.iload_n 2, 1) := by decide +kernel
theorem d_M_feed_38 : decode b_M_feed 38 = .ok (.invokevirtual 659, 3) := by decide +kernel
theorem d_M_feed_41 : decode b_M_feed 41 = .ok (.aload_n 0, 1) := by decide +kernel
theorem d_M_feed_42 : decode b_M_feed 42 = .ok (.iload_n 3, 1) := by decide +kernel
theorem d_M_feed_43 : decode b_M_feed 43 = .ok (.invokevirtual 659, 3) := by decide +kernel
theorem d_M_feed_46 : decode b_M_feed 46 = .ok (.aload_n 0, 1) := by decide +kernel
theorem d_M_feed_47 : decode b_M_feed 47 = .ok (.iload 4, 2) := by decide +kernel
theorem d_M_feed_49 : decode b_M_feed 49 = .ok (.invokevirtual 659, 3) := by decide +kernel
theorem d_M_feed_52 : decode b_M_feed 52 = .ok (.aload_n 0, 1) := by decide +kernel
theorem d_M_feed_53 : decode b_M_feed 53 = .ok (.iload 5, 2) := by decide +kernel
theorem d_M_feed_55 : decode b_M_feed 55 = .ok (.invokevirtual 659, 3) := by decide +kernel
theorem d_M_feed_58 : decode b_M_feed 58 = .ok (.aload_n 0, 1) := by decide +kernel
theorem d_M_feed_59 : decode b_M_feed 59 = .ok (.getfield 656, 3) := by decide +kernel
theorem d_M_feed_62 : decode b_M_feed 62 = .ok (.ireturn, 1) := by decide +kernel
abbrev rm_M_feed : Room := { frames := 1, cells := 0, slots := 0, locals := 22 }
abbrev q_M_feed (D : va_G) (cy : Nat → ClassId) (A : Nat → Prop) (o : Nat) (q : Nat → Nat) (res : Int32 × (Nat → Int32) × (Nat → Int32)) : Array Value → State → Outcome → State → Prop := va_Qi (fun r' (_ : Unit) => r' = res.1) (fun _ t => Po D cy A [(o, .inr (12, mo q res.2.1)), ((q 0), .inl (cy 0, 3000, .inl res.2.2))] t) A
def I_M_feed_19 (p : Program) (l : Launch) (e : Env) (s : State) (m : MethodId) (args : Array Value) (below : List Frame) (meth : Method) (c : Code) (D : va_G) (cy : Nat → ClassId) (A : Nat → Prop) (ad : Nat → Nat) (o : Nat) (q : Nat → Nat) (k : Int32 → Int32 → Int32 → Int32 → Int32 → Int32 → (Nat → Int32) → (Nat → Int32) → Option (Int32 × (Nat → Int32) × (Nat → Int32))) : Prop :=
  ∀ (x1 : Int32) (x2 : Int32) (x3 : Int32) (x4 : Int32) (x5 : Int32) (y0 : Int32) (u0 : Nat → Int32) (u1 : Nat → Int32) (res : Int32 × (Nat → Int32) × (Nat → Int32)), k x1 x2 x3 x4 x5 y0 u0 u1 = some res → ∀ (H : Heap) (locs : List Loc) (ls : Array Slot), va_P D classes [(o, .inr (12, mo q u0)), ((q 0), .inl (cy 0, 3000, .inl u1))] H → va_D A [(o, .inr (12, mo q u0)), ((q 0), .inl (cy 0, 3000, .inl u1))] → va_S A s.heap H locs → lv_has ls 6 [(0, .ref o), (1, .int x1), (2, .int x2), (3, .int x3), (4, .int x4), (5, .int x5)] → W p l e rm_M_feed s m args below meth c H locs 0 0 (MQ below (q_M_feed D cy A o q res) args s 0 0 A) (F0 m 19 ls [.int y0, .ref o])
def I_M_feed_e (p : Program) (l : Launch) (e : Env) (s : State) (m : MethodId) (args : Array Value) (below : List Frame) (meth : Method) (c : Code) (D : va_G) (cy : Nat → ClassId) (A : Nat → Prop) (ad : Nat → Nat) (o : Nat) (q : Nat → Nat) (k : Int32 → Int32 → Int32 → Int32 → Int32 → (Nat → Int32) → (Nat → Int32) → Option (Int32 × (Nat → Int32) × (Nat → Int32))) : Prop :=
  ∀ (a1 : Int32) (a2 : Int32) (a3 : Int32) (a4 : Int32) (a5 : Int32) (u0 : Nat → Int32) (u1 : Nat → Int32) (res : Int32 × (Nat → Int32) × (Nat → Int32)), k a1 a2 a3 a4 a5 u0 u1 = some res → ∀ (H : Heap) (locs : List Loc) (ls : Array Slot), va_P D classes [(o, .inr (12, mo q u0)), ((q 0), .inl (cy 0, 3000, .inl u1))] H → va_D A [(o, .inr (12, mo q u0)), ((q 0), .inl (cy 0, 3000, .inl u1))] → va_S A s.heap H locs → lv_has ls 6 [(0, .ref o), (1, .int a1), (2, .int a2), (3, .int a3), (4, .int a4), (5, .int a5)] → W p l e rm_M_feed s m args below meth c H locs 0 0 (MQ below (q_M_feed D cy A o q res) args s 0 0 A) (F0 m 0 ls [])
theorem hdm_5 : ({ cls := "CoinKeeperModel", name := "four", desc := "(I)V" } : Jvm.MethodName).cls ≠ "java/lang/invoke/MethodHandle" ∧ ({ cls := "CoinKeeperModel", name := "four", desc := "(I)V" } : Jvm.MethodName).cls ≠ "java/lang/invoke/VarHandle" ∧ (parseMethodDescriptor ({ cls := "CoinKeeperModel", name := "four", desc := "(I)V" } : Jvm.MethodName).desc).map (fun d => d.parameters.length) = some 1 := by decide +kernel
set_option maxHeartbeats 8000000 in
set_option maxRecDepth 100000 in
theorem wb_M_feed_19 {p : Program} {l : Launch} {e : Env} {s : State} {m : MethodId} {args : Array Value} {below : List Frame} {meth : Method} {c : Code} {D : va_G} {cy : Nat → ClassId} {A : Nat → Prop} {ad : Nat → Nat} {o : Nat} {q : Nat → Nat} {fu : Nat} (F : Fx p s m args meth c b_M_feed 6 "CoinKeeperModel" "feed" (some .int) D cy ad A) : I_M_feed_19 p l e s m args below meth c D cy A ad o q (xb_M_feed_19 fu) := by
  obtain ⟨hx, hb, hr, hml, hown, hts, hlocks, hK, hA, hSt, hnm, hex⟩ := id F
  intro x1 x2 x3 x4 x5 y0 u0 u1 res hf H locs ls hP hD hS hl
  unfold xb_M_feed_19 at hf
  refine va_put (D := D) (ci := 12) (v := .int y0) (ty := .int) (C := "CoinKeeperModel") (T := F_12) (N := 98) hx hb hts i_12 t_12 t_12_ok n_12 hown hK hP hD hS 0 rfl rfl 4 (by decide) (hts _ gw_1423) (fun _ h9 => h9) rfl (by decide +kernel) rfl rfl (Nat.le_of_ble_eq_true rfl) d_M_feed_19 (fun H locs hP hD hS => ?_)
  obtain ⟨z1, ev, hf⟩ := bne hf
  have hP : va_P D classes [(o, .inr (12, mo q z1)), ((q 0), .inl (cy 0, 3000, .inl u1))] H := by rw [ev]; exact hP
  have hD : va_D A [(o, .inr (12, mo q z1)), ((q 0), .inl (cy 0, 3000, .inl u1))] := by rw [ev]; exact hD
  clear ev
  refine lv_aload_n hx hb d_M_feed_22 rfl (lv_at hl 0 rfl) ?_
  refine va_get (D := D) (ci := 12) (v := .int (z1 2)) (C := "CoinKeeperModel") (T := F_12) (N := 98) hx hb hts i_12 hown hK hP 0 rfl rfl 4 (by decide) (hts _ gw_1423) (fun _ h9 => h9) rfl d_M_feed_23 ?_
  refine lv_if_le (tgt := 31) hx hb d_M_feed_26 (by decide) (fun cx => ?_) (fun cx => ?_)
  · have hf := ifp cx hf
    refine lv_aload_n hx hb d_M_feed_31 rfl (lv_at hl 0 rfl) ?_
    refine lv_iload_n hx hb d_M_feed_32 rfl (lv_at hl 1 rfl) ?_
    obtain ⟨f2, f3, hc, hf⟩ := bdp2 hf
    refine q_av (wr := []) (va_runV (C := "CoinKeeperModel") (As := [.int x1]) (rest := []) ⟨hx, hb, hml, hown, hts⟩ (c_M_four l D cy ad fu o q x1 z1 u1 _ hc H.size) ⟨q_cB hts gw_1725 gw_18 gw_1722 hdm_5 ⟨by decide, by decide⟩, hts _ gw_1724, hts _ gs_66⟩ (q_preV (q_pre (hP.sub [0, 1] rfl) (hD.sub [0, 1] (by decide) rfl) hK hSt hS (va_free hD hS hA [0, 1] rfl) _) (va_recv hK (hP.sub [0, 1] rfl) (ci := 12) (q0 := 0) rfl rfl)) rfl rfl hl.1 rfl (lv_room (Nat.le_of_ble_eq_true rfl)) d_M_feed_33 ⟨Nat.le_of_ble_eq_true rfl, Nat.le_of_ble_eq_true rfl⟩) hP hD hS hA [0, 1] [] rfl rfl (by decide) (by decide) (fun H locs hP hD hS => ?_)
    clear hc
    have hP : va_P D classes [(o, .inr (12, mo q f2)), ((q 0), .inl (cy 0, 3000, .inl f3))] H := hP
    have hD : va_D A [(o, .inr (12, mo q f2)), ((q 0), .inl (cy 0, 3000, .inl f3))] := hD
    refine lv_aload_n hx hb d_M_feed_36 rfl (lv_at hl 0 rfl) ?_
    refine lv_iload_n hx hb d_M_feed_37 rfl (lv_at hl 2 rfl) ?_
    obtain ⟨f4, f5, hc, hf⟩ := bdp2 hf
    refine q_av (wr := []) (va_runV (C := "CoinKeeperModel") (As := [.int x2]) (rest := []) ⟨hx, hb, hml, hown, hts⟩ (c_M_four l D cy ad fu o q x2 f2 f3 _ hc H.size) ⟨q_cB hts gw_1725 gw_18 gw_1722 hdm_5 ⟨by decide, by decide⟩, hts _ gw_1724, hts _ gs_66⟩ (q_preV (q_pre (hP.sub [0, 1] rfl) (hD.sub [0, 1] (by decide) rfl) hK hSt hS (va_free hD hS hA [0, 1] rfl) _) (va_recv hK (hP.sub [0, 1] rfl) (ci := 12) (q0 := 0) rfl rfl)) rfl rfl hl.1 rfl (lv_room (Nat.le_of_ble_eq_true rfl)) d_M_feed_38 ⟨Nat.le_of_ble_eq_true rfl, Nat.le_of_ble_eq_true rfl⟩) hP hD hS hA [0, 1] [] rfl rfl (by decide) (by decide) (fun H locs hP hD hS => ?_)
    clear hc
    have hP : va_P D classes [(o, .inr (12, mo q f4)), ((q 0), .inl (cy 0, 3000, .inl f5))] H := hP
    have hD : va_D A [(o, .inr (12, mo q f4)), ((q 0), .inl (cy 0, 3000, .inl f5))] := hD
    refine lv_aload_n hx hb d_M_feed_41 rfl (lv_at hl 0 rfl) ?_
    refine lv_iload_n hx hb d_M_feed_42 rfl (lv_at hl 3 rfl) ?_
    obtain ⟨f6, f7, hc, hf⟩ := bdp2 hf
    refine q_av (wr := []) (va_runV (C := "CoinKeeperModel") (As := [.int x3]) (rest := []) ⟨hx, hb, hml, hown, hts⟩ (c_M_four l D cy ad fu o q x3 f4 f5 _ hc H.size) ⟨q_cB hts gw_1725 gw_18 gw_1722 hdm_5 ⟨by decide, by decide⟩, hts _ gw_1724, hts _ gs_66⟩ (q_preV (q_pre (hP.sub [0, 1] rfl) (hD.sub [0, 1] (by decide) rfl) hK hSt hS (va_free hD hS hA [0, 1] rfl) _) (va_recv hK (hP.sub [0, 1] rfl) (ci := 12) (q0 := 0) rfl rfl)) rfl rfl hl.1 rfl (lv_room (Nat.le_of_ble_eq_true rfl)) d_M_feed_43 ⟨Nat.le_of_ble_eq_true rfl, Nat.le_of_ble_eq_true rfl⟩) hP hD hS hA [0, 1] [] rfl rfl (by decide) (by decide) (fun H locs hP hD hS => ?_)
    clear hc
    have hP : va_P D classes [(o, .inr (12, mo q f6)), ((q 0), .inl (cy 0, 3000, .inl f7))] H := hP
    have hD : va_D A [(o, .inr (12, mo q f6)), ((q 0), .inl (cy 0, 3000, .inl f7))] := hD
    refine lv_aload_n hx hb d_M_feed_46 rfl (lv_at hl 0 rfl) ?_
    refine lv_iload hx hb d_M_feed_47 (lv_at hl 4 rfl) ?_
    obtain ⟨f8, f9, hc, hf⟩ := bdp2 hf
    refine q_av (wr := []) (va_runV (C := "CoinKeeperModel") (As := [.int x4]) (rest := []) ⟨hx, hb, hml, hown, hts⟩ (c_M_four l D cy ad fu o q x4 f6 f7 _ hc H.size) ⟨q_cB hts gw_1725 gw_18 gw_1722 hdm_5 ⟨by decide, by decide⟩, hts _ gw_1724, hts _ gs_66⟩ (q_preV (q_pre (hP.sub [0, 1] rfl) (hD.sub [0, 1] (by decide) rfl) hK hSt hS (va_free hD hS hA [0, 1] rfl) _) (va_recv hK (hP.sub [0, 1] rfl) (ci := 12) (q0 := 0) rfl rfl)) rfl rfl hl.1 rfl (lv_room (Nat.le_of_ble_eq_true rfl)) d_M_feed_49 ⟨Nat.le_of_ble_eq_true rfl, Nat.le_of_ble_eq_true rfl⟩) hP hD hS hA [0, 1] [] rfl rfl (by decide) (by decide) (fun H locs hP hD hS => ?_)
    clear hc
    have hP : va_P D classes [(o, .inr (12, mo q f8)), ((q 0), .inl (cy 0, 3000, .inl f9))] H := hP
    have hD : va_D A [(o, .inr (12, mo q f8)), ((q 0), .inl (cy 0, 3000, .inl f9))] := hD
    refine lv_aload_n hx hb d_M_feed_52 rfl (lv_at hl 0 rfl) ?_
    refine lv_iload hx hb d_M_feed_53 (lv_at hl 5 rfl) ?_
    obtain ⟨f10, f11, hc, hf⟩ := bdp2 hf
    refine q_av (wr := []) (va_runV (C := "CoinKeeperModel") (As := [.int x5]) (rest := []) ⟨hx, hb, hml, hown, hts⟩ (c_M_four l D cy ad fu o q x5 f8 f9 _ hc H.size) ⟨q_cB hts gw_1725 gw_18 gw_1722 hdm_5 ⟨by decide, by decide⟩, hts _ gw_1724, hts _ gs_66⟩ (q_preV (q_pre (hP.sub [0, 1] rfl) (hD.sub [0, 1] (by decide) rfl) hK hSt hS (va_free hD hS hA [0, 1] rfl) _) (va_recv hK (hP.sub [0, 1] rfl) (ci := 12) (q0 := 0) rfl rfl)) rfl rfl hl.1 rfl (lv_room (Nat.le_of_ble_eq_true rfl)) d_M_feed_55 ⟨Nat.le_of_ble_eq_true rfl, Nat.le_of_ble_eq_true rfl⟩) hP hD hS hA [0, 1] [] rfl rfl (by decide) (by decide) (fun H locs hP hD hS => ?_)
    clear hc
    have hP : va_P D classes [(o, .inr (12, mo q f10)), ((q 0), .inl (cy 0, 3000, .inl f11))] H := hP
    have hD : va_D A [(o, .inr (12, mo q f10)), ((q 0), .inl (cy 0, 3000, .inl f11))] := hD
    refine lv_aload_n hx hb d_M_feed_58 rfl (lv_at hl 0 rfl) ?_
    refine va_get (D := D) (ci := 12) (v := .int (f10 0)) (C := "CoinKeeperModel") (T := F_12) (N := 98) hx hb hts i_12 hown hK hP 0 rfl rfl 2 (by decide) (hts _ gw_1421) (fun _ h9 => h9) rfl d_M_feed_59 ?_
    obtain rfl := Option.some.inj hf
    exact q_ri hx hb hr hlocks hK hP hD hS d_M_feed_62
  · have hf := ifn cx hf
    refine lv_iconst (v := 0) hx hb d_M_feed_29 (by decide) ?_
    obtain rfl := Option.some.inj hf
    exact q_ri hx hb hr hlocks hK hP hD hS d_M_feed_30
set_option maxHeartbeats 8000000 in
set_option maxRecDepth 100000 in
theorem we_M_feed {p : Program} {l : Launch} {e : Env} {s : State} {m : MethodId} {args : Array Value} {below : List Frame} {meth : Method} {c : Code} {D : va_G} {cy : Nat → ClassId} {A : Nat → Prop} {ad : Nat → Nat} {o : Nat} {q : Nat → Nat} {fu : Nat} (F : Fx p s m args meth c b_M_feed 6 "CoinKeeperModel" "feed" (some .int) D cy ad A) : I_M_feed_e p l e s m args below meth c D cy A ad o q (x_M_feed fu) := by
  obtain ⟨hx, hb, hr, hml, hown, hts, hlocks, hK, hA, hSt, hnm, hex⟩ := id F
  intro a1 a2 a3 a4 a5 u0 u1 res hf H locs ls hP hD hS hl
  unfold x_M_feed at hf
  refine lv_aload_n hx hb d_M_feed_0 rfl (lv_at hl 0 rfl) ?_
  refine lv_aload_n hx hb d_M_feed_1 rfl (lv_at hl 0 rfl) ?_
  refine va_get (D := D) (ci := 12) (v := .int (u0 0)) (C := "CoinKeeperModel") (T := F_12) (N := 98) hx hb hts i_12 hown hK hP 0 rfl rfl 2 (by decide) (hts _ gw_1421) (fun _ h9 => h9) rfl d_M_feed_2 ?_
  refine lv_bipush (v := 20) hx hb d_M_feed_5 (by decide) ?_
  refine lv_iadd hx hb d_M_feed_7 ?_
  refine lv_topi (fun v1 ev => ?_)
  have hf := bn ev hf
  clear ev
  refine lv_sipush (v := 3000) hx hb d_M_feed_8 (by decide) ?_
  refine lv_icmp_le (tgt := 18) hx hb d_M_feed_11 (by decide) (fun cx => ?_) (fun cx => ?_)
  · have hf := ifp cx hf
    refine lv_iconst (v := 0) hx hb d_M_feed_18 (by decide) ?_
    exact wb_M_feed_19 (fu := fu) F _ _ _ _ _ _ _ _ _ hf _ _ _ hP hD hS (lv_sub hl [0, 1, 2, 3, 4, 5] rfl)
  · have hf := ifn cx hf
    refine lv_iconst (v := 1) hx hb d_M_feed_14 (by decide) ?_
    refine lv_goto (tgt := 19) hx hb d_M_feed_15 (by decide) ?_
    exact wb_M_feed_19 (fu := fu) F _ _ _ _ _ _ _ _ _ hf _ _ _ hP hD hS (lv_sub hl [0, 1, 2, 3, 4, 5] rfl)
theorem c_M_feed (l : Launch) (D : va_G) (cy : Nat → ClassId) (ad : Nat → Nat) (fu : Nat) (o : Nat) (q : Nat → Nat) (a1 : Int32) (a2 : Int32) (a3 : Int32) (a4 : Int32) (a5 : Int32) (u0 : Nat → Int32) (u1 : Nat → Int32) (res : Int32 × (Nat → Int32) × (Nat → Int32)) (hf : x_M_feed fu a1 a2 a3 a4 a5 u0 u1 = some res) (sz : Nat) : Met l ({ cls := "CoinKeeperModel", name := "feed", desc := "(IIIII)I" } : Jvm.MethodName) (.code ({ cls := "CoinKeeperModel", name := "feed", desc := "(IIIII)I" } : Jvm.MethodName) b_M_feed 6 (some .int) :: gw) rm_M_feed (va_Pc [.ref o, .int a1, .int a2, .int a3, .int a4, .int a5] (Pr D cy ad [(o, .inr (12, mo q u0)), ((q 0), .inl (cy 0, 3000, .inl u1))] sz)) (q_M_feed D cy (va_A [(o, .inr (12, mo q u0)), ((q 0), .inl (cy 0, 3000, .inl u1))] sz) o q res) 0 0 (va_A [(o, .inr (12, mo q u0)), ((q 0), .inl (cy 0, 3000, .inl u1))] sz) :=
  q_met (Qc := fun A => q_M_feed D cy A o q res) (by decide) rfl rfl (Nat.le_of_ble_eq_true rfl) (fun p e s m below meth c ls F hP hD hS hl => we_M_feed (fu := fu) F a1 a2 a3 a4 a5 u0 u1 res hf _ _ _ hP hD hS hl) sz
abbrev b_M_end : ByteArray := prog_14_method_83_code
theorem d_M_end_0 : decode b_M_end 0 = .ok (.aload_n 0, 1) := by decide +kernel
theorem d_M_end_1 : decode b_M_end 1 = .ok (.iload_n 1, 1) := by decide +kernel
theorem d_M_end_2 : decode b_M_end 2 = .ok (.ifCond .lt 11, 3) := by decide +kernel
theorem d_M_end_5 : decode b_M_end 5 = .ok (.iload_n 1, 1) := by decide +kernel
theorem d_M_end_6 : decode b_M_end 6 = .ok (.aload_n 0, 1) := by decide +kernel
theorem d_M_end_7 : decode b_M_end 7 = .ok (.getfield 656, 3) := by decide +kernel
theorem d_M_end_10 : decode b_M_end 10 = .ok (.if_icmp .le 7, 3) := by decide +kernel
theorem d_M_end_13 : decode b_M_end 13 = .ok (.iconst 1, 1) := by decide +kernel
theorem d_M_end_14 : decode b_M_end 14 = .ok (.goto 4, 3) := by decide +kernel
theorem d_M_end_17 : decode b_M_end 17 = .ok (.iconst 0, 1) := by decide +kernel
theorem d_M_end_18 : decode b_M_end 18 = .ok (.putfield 268, 3) := by decide +kernel
theorem d_M_end_21 : decode b_M_end 21 = .ok (.aload_n 0, 1) := by decide +kernel
theorem d_M_end_22 : decode b_M_end 22 = .ok (.getfield 268, 3) := by decide +kernel
theorem d_M_end_25 : decode b_M_end 25 = .ok (.ifCond .le 5, 3) := by decide +kernel
theorem d_M_end_28 : decode b_M_end 28 = .ok (.iconst 0, 1) := by decide +kernel
theorem d_M_end_29 : decode b_M_end 29 = .ok (.ireturn, 1) := by decide +kernel
theorem d_M_end_30 : decode b_M_end 30 = .ok (.aload_n 0, 1) := by decide +kernel
theorem d_M_end_31 : decode b_M_end 31 = .ok (.iload_n 1, 1) := by decide +kernel
theorem d_M_end_32 : decode b_M_end 32 = .ok (.putfield 656, 3) := by decide +kernel
theorem d_M_end_35 : decode b_M_end 35 = .ok (.iload_n 1, 1) := by decide +kernel
theorem d_M_end_36 : decode b_M_end 36 = .ok (.ireturn, 1) := by decide +kernel
abbrev rm_M_end : Room := { frames := 0, cells := 0, slots := 0, locals := 0 }
abbrev q_M_end (D : va_G) (cy : Nat → ClassId) (A : Nat → Prop) (o : Nat) (q : Nat → Nat) (res : Int32 × (Nat → Int32)) : Array Value → State → Outcome → State → Prop := va_Qi (fun r' (_ : Unit) => r' = res.1) (fun _ t => Po D cy A [(o, .inr (12, mo q res.2))] t) A
def I_M_end_18 (p : Program) (l : Launch) (e : Env) (s : State) (m : MethodId) (args : Array Value) (below : List Frame) (meth : Method) (c : Code) (D : va_G) (cy : Nat → ClassId) (A : Nat → Prop) (ad : Nat → Nat) (o : Nat) (q : Nat → Nat) (k : Int32 → Int32 → (Nat → Int32) → Option (Int32 × (Nat → Int32))) : Prop :=
  ∀ (x1 : Int32) (y0 : Int32) (u0 : Nat → Int32) (res : Int32 × (Nat → Int32)), k x1 y0 u0 = some res → ∀ (H : Heap) (locs : List Loc) (ls : Array Slot), va_P D classes [(o, .inr (12, mo q u0))] H → va_D A [(o, .inr (12, mo q u0))] → va_S A s.heap H locs → lv_has ls 2 [(0, .ref o), (1, .int x1)] → W p l e rm_M_end s m args below meth c H locs 0 0 (MQ below (q_M_end D cy A o q res) args s 0 0 A) (F0 m 18 ls [.int y0, .ref o])
def I_M_end_13 (p : Program) (l : Launch) (e : Env) (s : State) (m : MethodId) (args : Array Value) (below : List Frame) (meth : Method) (c : Code) (D : va_G) (cy : Nat → ClassId) (A : Nat → Prop) (ad : Nat → Nat) (o : Nat) (q : Nat → Nat) (k : Int32 → (Nat → Int32) → Option (Int32 × (Nat → Int32))) : Prop :=
  ∀ (x1 : Int32) (u0 : Nat → Int32) (res : Int32 × (Nat → Int32)), k x1 u0 = some res → ∀ (H : Heap) (locs : List Loc) (ls : Array Slot), va_P D classes [(o, .inr (12, mo q u0))] H → va_D A [(o, .inr (12, mo q u0))] → va_S A s.heap H locs → lv_has ls 2 [(0, .ref o), (1, .int x1)] → W p l e rm_M_end s m args below meth c H locs 0 0 (MQ below (q_M_end D cy A o q res) args s 0 0 A) (F0 m 13 ls [.ref o])
def I_M_end_e (p : Program) (l : Launch) (e : Env) (s : State) (m : MethodId) (args : Array Value) (below : List Frame) (meth : Method) (c : Code) (D : va_G) (cy : Nat → ClassId) (A : Nat → Prop) (ad : Nat → Nat) (o : Nat) (q : Nat → Nat) (k : Int32 → (Nat → Int32) → Option (Int32 × (Nat → Int32))) : Prop :=
  ∀ (a1 : Int32) (u0 : Nat → Int32) (res : Int32 × (Nat → Int32)), k a1 u0 = some res → ∀ (H : Heap) (locs : List Loc) (ls : Array Slot), va_P D classes [(o, .inr (12, mo q u0))] H → va_D A [(o, .inr (12, mo q u0))] → va_S A s.heap H locs → lv_has ls 2 [(0, .ref o), (1, .int a1)] → W p l e rm_M_end s m args below meth c H locs 0 0 (MQ below (q_M_end D cy A o q res) args s 0 0 A) (F0 m 0 ls [])
set_option maxHeartbeats 8000000 in
set_option maxRecDepth 100000 in
theorem wb_M_end_18 {p : Program} {l : Launch} {e : Env} {s : State} {m : MethodId} {args : Array Value} {below : List Frame} {meth : Method} {c : Code} {D : va_G} {cy : Nat → ClassId} {A : Nat → Prop} {ad : Nat → Nat} {o : Nat} {q : Nat → Nat} {fu : Nat} (F : Fx p s m args meth c b_M_end 2 "CoinKeeperModel" "end" (some .int) D cy ad A) : I_M_end_18 p l e s m args below meth c D cy A ad o q (xb_M_end_18 fu) := by
  obtain ⟨hx, hb, hr, hml, hown, hts, hlocks, hK, hA, hSt, hnm, hex⟩ := id F
  intro x1 y0 u0 res hf H locs ls hP hD hS hl
  unfold xb_M_end_18 at hf
  refine va_put (D := D) (ci := 12) (v := .int y0) (ty := .int) (C := "CoinKeeperModel") (T := F_12) (N := 98) hx hb hts i_12 t_12 t_12_ok n_12 hown hK hP hD hS 0 rfl rfl 4 (by decide) (hts _ gw_1423) (fun _ h9 => h9) rfl (by decide +kernel) rfl rfl (Nat.le_of_ble_eq_true rfl) d_M_end_18 (fun H locs hP hD hS => ?_)
  obtain ⟨z1, ev, hf⟩ := bne hf
  have hP : va_P D classes [(o, .inr (12, mo q z1))] H := by rw [ev]; exact hP
  have hD : va_D A [(o, .inr (12, mo q z1))] := by rw [ev]; exact hD
  clear ev
  refine lv_aload_n hx hb d_M_end_21 rfl (lv_at hl 0 rfl) ?_
  refine va_get (D := D) (ci := 12) (v := .int (z1 2)) (C := "CoinKeeperModel") (T := F_12) (N := 98) hx hb hts i_12 hown hK hP 0 rfl rfl 4 (by decide) (hts _ gw_1423) (fun _ h9 => h9) rfl d_M_end_22 ?_
  refine lv_if_le (tgt := 30) hx hb d_M_end_25 (by decide) (fun cx => ?_) (fun cx => ?_)
  · have hf := ifp cx hf
    refine lv_aload_n hx hb d_M_end_30 rfl (lv_at hl 0 rfl) ?_
    refine lv_iload_n hx hb d_M_end_31 rfl (lv_at hl 1 rfl) ?_
    refine va_put (D := D) (ci := 12) (v := .int x1) (ty := .int) (C := "CoinKeeperModel") (T := F_12) (N := 98) hx hb hts i_12 t_12 t_12_ok n_12 hown hK hP hD hS 0 rfl rfl 2 (by decide) (hts _ gw_1421) (fun _ h9 => h9) rfl (by decide +kernel) rfl rfl (Nat.le_of_ble_eq_true rfl) d_M_end_32 (fun H locs hP hD hS => ?_)
    obtain ⟨z2, ev, hf⟩ := bne hf
    have hP : va_P D classes [(o, .inr (12, mo q z2))] H := by rw [ev]; exact hP
    have hD : va_D A [(o, .inr (12, mo q z2))] := by rw [ev]; exact hD
    clear ev
    refine lv_iload_n hx hb d_M_end_35 rfl (lv_at hl 1 rfl) ?_
    obtain rfl := Option.some.inj hf
    exact q_ri hx hb hr hlocks hK hP hD hS d_M_end_36
  · have hf := ifn cx hf
    refine lv_iconst (v := 0) hx hb d_M_end_28 (by decide) ?_
    obtain rfl := Option.some.inj hf
    exact q_ri hx hb hr hlocks hK hP hD hS d_M_end_29
set_option maxHeartbeats 8000000 in
set_option maxRecDepth 100000 in
theorem wb_M_end_13 {p : Program} {l : Launch} {e : Env} {s : State} {m : MethodId} {args : Array Value} {below : List Frame} {meth : Method} {c : Code} {D : va_G} {cy : Nat → ClassId} {A : Nat → Prop} {ad : Nat → Nat} {o : Nat} {q : Nat → Nat} {fu : Nat} (F : Fx p s m args meth c b_M_end 2 "CoinKeeperModel" "end" (some .int) D cy ad A) : I_M_end_13 p l e s m args below meth c D cy A ad o q (xb_M_end_13 fu) := by
  obtain ⟨hx, hb, hr, hml, hown, hts, hlocks, hK, hA, hSt, hnm, hex⟩ := id F
  intro x1 u0 res hf H locs ls hP hD hS hl
  unfold xb_M_end_13 at hf
  refine lv_iconst (v := 1) hx hb d_M_end_13 (by decide) ?_
  refine lv_goto (tgt := 18) hx hb d_M_end_14 (by decide) ?_
  exact wb_M_end_18 (fu := fu) F _ _ _ _ hf _ _ _ hP hD hS (lv_sub hl [0, 1] rfl)
set_option maxHeartbeats 8000000 in
set_option maxRecDepth 100000 in
theorem we_M_end {p : Program} {l : Launch} {e : Env} {s : State} {m : MethodId} {args : Array Value} {below : List Frame} {meth : Method} {c : Code} {D : va_G} {cy : Nat → ClassId} {A : Nat → Prop} {ad : Nat → Nat} {o : Nat} {q : Nat → Nat} {fu : Nat} (F : Fx p s m args meth c b_M_end 2 "CoinKeeperModel" "end" (some .int) D cy ad A) : I_M_end_e p l e s m args below meth c D cy A ad o q (x_M_end fu) := by
  obtain ⟨hx, hb, hr, hml, hown, hts, hlocks, hK, hA, hSt, hnm, hex⟩ := id F
  intro a1 u0 res hf H locs ls hP hD hS hl
  unfold x_M_end at hf
  refine lv_aload_n hx hb d_M_end_0 rfl (lv_at hl 0 rfl) ?_
  refine lv_iload_n hx hb d_M_end_1 rfl (lv_at hl 1 rfl) ?_
  refine lv_if_lt (tgt := 13) hx hb d_M_end_2 (by decide) (fun cx => ?_) (fun cx => ?_)
  · have hf := ifp cx hf
    exact wb_M_end_13 (fu := fu) F _ _ _ hf _ _ _ hP hD hS (lv_sub hl [0, 1] rfl)
  · have hf := ifn cx hf
    refine lv_iload_n hx hb d_M_end_5 rfl (lv_at hl 1 rfl) ?_
    refine lv_aload_n hx hb d_M_end_6 rfl (lv_at hl 0 rfl) ?_
    refine va_get (D := D) (ci := 12) (v := .int (u0 0)) (C := "CoinKeeperModel") (T := F_12) (N := 98) hx hb hts i_12 hown hK hP 0 rfl rfl 2 (by decide) (hts _ gw_1421) (fun _ h9 => h9) rfl d_M_end_7 ?_
    refine lv_icmp_le (tgt := 17) hx hb d_M_end_10 (by decide) (fun cx => ?_) (fun cx => ?_)
    · have hf := ifp cx hf
      refine lv_iconst (v := 0) hx hb d_M_end_17 (by decide) ?_
      exact wb_M_end_18 (fu := fu) F _ _ _ _ hf _ _ _ hP hD hS (lv_sub hl [0, 1] rfl)
    · have hf := ifn cx hf
      exact wb_M_end_13 (fu := fu) F _ _ _ hf _ _ _ hP hD hS (lv_sub hl [0, 1] rfl)
theorem c_M_end (l : Launch) (D : va_G) (cy : Nat → ClassId) (ad : Nat → Nat) (fu : Nat) (o : Nat) (q : Nat → Nat) (a1 : Int32) (u0 : Nat → Int32) (res : Int32 × (Nat → Int32)) (hf : x_M_end fu a1 u0 = some res) (sz : Nat) : Met l ({ cls := "CoinKeeperModel", name := "end", desc := "(I)I" } : Jvm.MethodName) (.code ({ cls := "CoinKeeperModel", name := "end", desc := "(I)I" } : Jvm.MethodName) b_M_end 2 (some .int) :: gw) rm_M_end (va_Pc [.ref o, .int a1] (Pr D cy ad [(o, .inr (12, mo q u0))] sz)) (q_M_end D cy (va_A [(o, .inr (12, mo q u0))] sz) o q res) 0 0 (va_A [(o, .inr (12, mo q u0))] sz) :=
  q_met (Qc := fun A => q_M_end D cy A o q res) (by decide) rfl rfl (Nat.le_of_ble_eq_true rfl) (fun p e s m below meth c ls F hP hD hS hl => we_M_end (fu := fu) F a1 u0 res hf _ _ _ hP hD hS hl) sz
abbrev b_M_thrown : ByteArray := prog_14_method_2_code
theorem d_M_thrown_0 : decode b_M_thrown 0 = .ok (.aload_n 0, 1) := by decide +kernel
theorem d_M_thrown_1 : decode b_M_thrown 1 = .ok (.getfield 268, 3) := by decide +kernel
theorem d_M_thrown_4 : decode b_M_thrown 4 = .ok (.ireturn, 1) := by decide +kernel
abbrev rm_M_thrown : Room := { frames := 0, cells := 0, slots := 0, locals := 0 }
abbrev q_M_thrown (D : va_G) (cy : Nat → ClassId) (A : Nat → Prop) (o : Nat) (q : Nat → Nat) (z : Nat → Int32) (res : Int32) : Array Value → State → Outcome → State → Prop := va_Qi (fun r' (_ : Unit) => r' = res) (fun _ t => Po D cy A [(o, .inr (12, mo q z))] t) A
def I_M_thrown_e (p : Program) (l : Launch) (e : Env) (s : State) (m : MethodId) (args : Array Value) (below : List Frame) (meth : Method) (c : Code) (D : va_G) (cy : Nat → ClassId) (A : Nat → Prop) (ad : Nat → Nat) (o : Nat) (q : Nat → Nat) (z : Nat → Int32) (k : Option (Int32)) : Prop :=
  ∀ (res : Int32), k  = some res → ∀ (H : Heap) (locs : List Loc) (ls : Array Slot), va_P D classes [(o, .inr (12, mo q z))] H → va_D A [(o, .inr (12, mo q z))] → va_S A s.heap H locs → lv_has ls 1 [(0, .ref o)] → W p l e rm_M_thrown s m args below meth c H locs 0 0 (MQ below (q_M_thrown D cy A o q z res) args s 0 0 A) (F0 m 0 ls [])
set_option maxHeartbeats 8000000 in
set_option maxRecDepth 100000 in
theorem we_M_thrown {p : Program} {l : Launch} {e : Env} {s : State} {m : MethodId} {args : Array Value} {below : List Frame} {meth : Method} {c : Code} {D : va_G} {cy : Nat → ClassId} {A : Nat → Prop} {ad : Nat → Nat} {o : Nat} {q : Nat → Nat} {z : Nat → Int32} {fu : Nat} (F : Fx p s m args meth c b_M_thrown 1 "CoinKeeperModel" "thrown" (some .int) D cy ad A) : I_M_thrown_e p l e s m args below meth c D cy A ad o q z (x_M_thrown fu z) := by
  obtain ⟨hx, hb, hr, hml, hown, hts, hlocks, hK, hA, hSt, hnm, hex⟩ := id F
  intro  res hf H locs ls hP hD hS hl
  unfold x_M_thrown at hf
  refine lv_aload_n hx hb d_M_thrown_0 rfl (lv_at hl 0 rfl) ?_
  refine va_get (D := D) (ci := 12) (v := .int (z 2)) (C := "CoinKeeperModel") (T := F_12) (N := 98) hx hb hts i_12 hown hK hP 0 rfl rfl 4 (by decide) (hts _ gw_1423) (fun _ h9 => h9) rfl d_M_thrown_1 ?_
  obtain rfl := Option.some.inj hf
  exact q_ri hx hb hr hlocks hK hP hD hS d_M_thrown_4
theorem c_M_thrown (l : Launch) (D : va_G) (cy : Nat → ClassId) (ad : Nat → Nat) (fu : Nat) (o : Nat) (q : Nat → Nat) (z : Nat → Int32) (res : Int32) (hf : x_M_thrown fu z = some res) (sz : Nat) : Met l ({ cls := "CoinKeeperModel", name := "thrown", desc := "()I" } : Jvm.MethodName) (.code ({ cls := "CoinKeeperModel", name := "thrown", desc := "()I" } : Jvm.MethodName) b_M_thrown 1 (some .int) :: gw) rm_M_thrown (va_Pc [.ref o] (Pr D cy ad [(o, .inr (12, mo q z))] sz)) (q_M_thrown D cy (va_A [(o, .inr (12, mo q z))] sz) o q z res) 0 0 (va_A [(o, .inr (12, mo q z))] sz) :=
  q_met (Qc := fun A => q_M_thrown D cy A o q z res) (by decide) rfl rfl (Nat.le_of_ble_eq_true rfl) (fun p e s m below meth c ls F hP hD hS hl => we_M_thrown (fu := fu) F  res hf _ _ _ hP hD hS hl) sz
abbrev b_M_isZero : ByteArray := prog_14_method_11_code
theorem d_M_isZero_0 : decode b_M_isZero 0 = .ok (.iconst 0, 1) := by decide +kernel
theorem d_M_isZero_1 : decode b_M_isZero 1 = .ok (.istore_n 1, 1) := by decide +kernel
theorem d_M_isZero_2 : decode b_M_isZero 2 = .ok (.iload_n 1, 1) := by decide +kernel
theorem d_M_isZero_3 : decode b_M_isZero 3 = .ok (.bipush 8, 2) := by decide +kernel
theorem d_M_isZero_5 : decode b_M_isZero 5 = .ok (.if_icmp .ge 17, 3) := by decide +kernel
theorem d_M_isZero_8 : decode b_M_isZero 8 = .ok (.aload_n 0, 1) := by decide +kernel
theorem d_M_isZero_9 : decode b_M_isZero 9 = .ok (.iload_n 1, 1) := by decide +kernel
theorem d_M_isZero_10 : decode b_M_isZero 10 = .ok (.iaload, 1) := by decide +kernel
theorem d_M_isZero_11 : decode b_M_isZero 11 = .ok (.ifCond .eq 5, 3) := by decide +kernel
theorem d_M_isZero_14 : decode b_M_isZero 14 = .ok (.iconst 0, 1) := by decide +kernel
theorem d_M_isZero_15 : decode b_M_isZero 15 = .ok (.ireturn, 1) := by decide +kernel
theorem d_M_isZero_16 : decode b_M_isZero 16 = .ok (.iinc 1 1, 3) := by decide +kernel
theorem d_M_isZero_19 : decode b_M_isZero 19 = .ok (.goto (-17), 3) := by decide +kernel
theorem d_M_isZero_22 : decode b_M_isZero 22 = .ok (.iconst 1, 1) := by decide +kernel
theorem d_M_isZero_23 : decode b_M_isZero 23 = .ok (.ireturn, 1) := by decide +kernel
abbrev rm_M_isZero : Room := { frames := 0, cells := 0, slots := 0, locals := 0 }
abbrev q_M_isZero (D : va_G) (cy : Nat → ClassId) (A : Nat → Prop) (b0 : Nat) (h0 : Nat → Int32) (res : Int32) : Array Value → State → Outcome → State → Prop := va_Qi (fun r' (_ : Unit) => r' = res) (fun _ t => Po D cy A [(b0, .inl (cy 1, 8, .inl h0))] t) A
def I_M_isZero_2 (p : Program) (l : Launch) (e : Env) (s : State) (m : MethodId) (args : Array Value) (below : List Frame) (meth : Method) (c : Code) (D : va_G) (cy : Nat → ClassId) (A : Nat → Prop) (ad : Nat → Nat) (b0 : Nat) (h0 : Nat → Int32) (k : Int32 → Option (Int32)) : Prop :=
  ∀ (x1 : Int32) (res : Int32), k x1 = some res → ∀ (H : Heap) (locs : List Loc) (ls : Array Slot), va_P D classes [(b0, .inl (cy 1, 8, .inl h0))] H → va_D A [(b0, .inl (cy 1, 8, .inl h0))] → va_S A s.heap H locs → lv_has ls 2 [(0, .ref b0), (1, .int x1)] → W p l e rm_M_isZero s m args below meth c H locs 0 0 (MQ below (q_M_isZero D cy A b0 h0 res) args s 0 0 A) (F0 m 2 ls [])
def I_M_isZero_e (p : Program) (l : Launch) (e : Env) (s : State) (m : MethodId) (args : Array Value) (below : List Frame) (meth : Method) (c : Code) (D : va_G) (cy : Nat → ClassId) (A : Nat → Prop) (ad : Nat → Nat) (b0 : Nat) (h0 : Nat → Int32) (k : Option (Int32)) : Prop :=
  ∀ (res : Int32), k  = some res → ∀ (H : Heap) (locs : List Loc) (ls : Array Slot), va_P D classes [(b0, .inl (cy 1, 8, .inl h0))] H → va_D A [(b0, .inl (cy 1, 8, .inl h0))] → va_S A s.heap H locs → lv_has ls 2 [(0, .ref b0)] → W p l e rm_M_isZero s m args below meth c H locs 0 0 (MQ below (q_M_isZero D cy A b0 h0 res) args s 0 0 A) (F0 m 0 ls [])
set_option maxHeartbeats 8000000 in
set_option maxRecDepth 100000 in
theorem wb_M_isZero_2 {p : Program} {l : Launch} {e : Env} {s : State} {m : MethodId} {args : Array Value} {below : List Frame} {meth : Method} {c : Code} {D : va_G} {cy : Nat → ClassId} {A : Nat → Prop} {ad : Nat → Nat} {b0 : Nat} {h0 : Nat → Int32} {fu : Nat} {k_2 : Int32 → Option (Int32)} (F : Fx p s m args meth c b_M_isZero 2 "CoinKeeperModel" "isZero" (some .boolean) D cy ad A) (hk_2 : I_M_isZero_2 p l e s m args below meth c D cy A ad b0 h0 k_2) : I_M_isZero_2 p l e s m args below meth c D cy A ad b0 h0 (xb_M_isZero_2 fu h0 k_2) := by
  obtain ⟨hx, hb, hr, hml, hown, hts, hlocks, hK, hA, hSt, hnm, hex⟩ := id F
  intro x1 res hf H locs ls hP hD hS hl
  unfold xb_M_isZero_2 at hf
  refine lv_iload_n hx hb d_M_isZero_2 rfl (lv_at hl 1 rfl) ?_
  refine lv_bipush (v := 8) hx hb d_M_isZero_3 (by decide) ?_
  refine lv_icmp_ge (tgt := 22) hx hb d_M_isZero_5 (by decide) (fun cx => ?_) (fun cx => ?_)
  · have hf := ifp cx hf
    refine lv_iconst (v := 1) hx hb d_M_isZero_22 (by decide) ?_
    obtain rfl := Option.some.inj hf
    exact q_rz hx hb hr hlocks hK hP hD hS (isb_n (v := 1) (by decide)) d_M_isZero_23
  · have hf := ifn cx hf
    refine lv_aload_n hx hb d_M_isZero_8 rfl (lv_at hl 0 rfl) ?_
    refine lv_iload_n hx hb d_M_isZero_9 rfl (lv_at hl 1 rfl) ?_
    obtain ⟨hg, hf⟩ := gdp hf
    refine va_iald hx hb hK hP 0 1 rfl rfl (inb_in hg) d_M_isZero_10 ?_
    refine lv_topi (fun v1 ev => ?_)
    have hf := bn ev hf
    clear ev
    refine lv_if_eq (tgt := 16) hx hb d_M_isZero_11 (by decide) (fun cx => ?_) (fun cx => ?_)
    · have hf := ifp cx hf
      obtain ⟨v2, ev, hf⟩ := bne hf
      refine lv_iinc (v := v2) (lv' := [(1, .int v2), (0, .ref b0)]) hx hb d_M_isZero_16 hl (k := 1) rfl (by rw [ev]; rfl) (by decide) rfl (fun ls hl => ?_)
      clear ev
      refine lv_goto (tgt := 2) hx hb d_M_isZero_19 (by decide) ?_
      exact hk_2 _ _ hf _ _ _ hP hD hS (lv_sub hl [1, 0] rfl)
    · have hf := ifn cx hf
      refine lv_iconst (v := 0) hx hb d_M_isZero_14 (by decide) ?_
      obtain rfl := Option.some.inj hf
      exact q_rz hx hb hr hlocks hK hP hD hS (isb_n (v := 0) (by decide)) d_M_isZero_15
theorem w_M_isZero_2 {p : Program} {l : Launch} {e : Env} {s : State} {m : MethodId} {args : Array Value} {below : List Frame} {meth : Method} {c : Code} {D : va_G} {cy : Nat → ClassId} {A : Nat → Prop} {ad : Nat → Nat} {b0 : Nat} {h0 : Nat → Int32} {fu : Nat} (F : Fx p s m args meth c b_M_isZero 2 "CoinKeeperModel" "isZero" (some .boolean) D cy ad A) : ∀ n : Nat, I_M_isZero_2 p l e s m args below meth c D cy A ad b0 h0 (x_M_isZero_2 fu h0 n)
  | 0 => fun _ _ hf => nomatch (show (none : Option (Int32)) = some _ from hf)
  | n + 1 => wb_M_isZero_2 F (w_M_isZero_2 F n)
set_option maxHeartbeats 8000000 in
set_option maxRecDepth 100000 in
theorem we_M_isZero {p : Program} {l : Launch} {e : Env} {s : State} {m : MethodId} {args : Array Value} {below : List Frame} {meth : Method} {c : Code} {D : va_G} {cy : Nat → ClassId} {A : Nat → Prop} {ad : Nat → Nat} {b0 : Nat} {h0 : Nat → Int32} {fu : Nat} (F : Fx p s m args meth c b_M_isZero 2 "CoinKeeperModel" "isZero" (some .boolean) D cy ad A) : I_M_isZero_e p l e s m args below meth c D cy A ad b0 h0 (x_M_isZero fu h0) := by
  obtain ⟨hx, hb, hr, hml, hown, hts, hlocks, hK, hA, hSt, hnm, hex⟩ := id F
  intro  res hf H locs ls hP hD hS hl
  unfold x_M_isZero at hf
  refine lv_iconst (v := 0) hx hb d_M_isZero_0 (by decide) ?_
  refine lv_istore_n (lv' := [(1, .int (0 : Int32)), (0, .ref b0)]) hx hb d_M_isZero_1 rfl hl (by decide) rfl (fun ls hl => ?_)
  exact w_M_isZero_2 F fu _ _ hf _ _ _ hP hD hS (lv_sub hl [1, 0] rfl)
theorem c_M_isZero (l : Launch) (D : va_G) (cy : Nat → ClassId) (ad : Nat → Nat) (fu : Nat) (b0 : Nat) (h0 : Nat → Int32) (res : Int32) (hf : x_M_isZero fu h0 = some res) (sz : Nat) : Met l ({ cls := "CoinKeeperModel", name := "isZero", desc := "([I)Z" } : Jvm.MethodName) (.code ({ cls := "CoinKeeperModel", name := "isZero", desc := "([I)Z" } : Jvm.MethodName) b_M_isZero 2 (some .boolean) :: gw) rm_M_isZero (va_Pc [.ref b0] (Pr D cy ad [(b0, .inl (cy 1, 8, .inl h0))] sz)) (q_M_isZero D cy (va_A [(b0, .inl (cy 1, 8, .inl h0))] sz) b0 h0 res) 0 0 (va_A [(b0, .inl (cy 1, 8, .inl h0))] sz) :=
  q_met (Qc := fun A => q_M_isZero D cy A b0 h0 res) (by decide) rfl rfl (Nat.le_of_ble_eq_true rfl) (fun p e s m below meth c ls F hP hD hS hl => we_M_isZero (fu := fu) F  res hf _ _ _ hP hD hS hl) sz
abbrev b_M_isLow : ByteArray := prog_14_method_18_code
theorem d_M_isLow_0 : decode b_M_isLow 0 = .ok (.iconst 0, 1) := by decide +kernel
theorem d_M_isLow_1 : decode b_M_isLow 1 = .ok (.istore_n 1, 1) := by decide +kernel
theorem d_M_isLow_2 : decode b_M_isLow 2 = .ok (.iload_n 1, 1) := by decide +kernel
theorem d_M_isLow_3 : decode b_M_isLow 3 = .ok (.bipush 7, 2) := by decide +kernel
theorem d_M_isLow_5 : decode b_M_isLow 5 = .ok (.if_icmp .ge 20, 3) := by decide +kernel
theorem d_M_isLow_8 : decode b_M_isLow 8 = .ok (.aload_n 0, 1) := by decide +kernel
theorem d_M_isLow_9 : decode b_M_isLow 9 = .ok (.getfield 130, 3) := by decide +kernel
theorem d_M_isLow_12 : decode b_M_isLow 12 = .ok (.iload_n 1, 1) := by decide +kernel
theorem d_M_isLow_13 : decode b_M_isLow 13 = .ok (.iaload, 1) := by decide +kernel
theorem d_M_isLow_14 : decode b_M_isLow 14 = .ok (.ifCond .eq 5, 3) := by decide +kernel
theorem d_M_isLow_17 : decode b_M_isLow 17 = .ok (.iconst 0, 1) := by decide +kernel
theorem d_M_isLow_18 : decode b_M_isLow 18 = .ok (.ireturn, 1) := by decide +kernel
theorem d_M_isLow_19 : decode b_M_isLow 19 = .ok (.iinc 1 1, 3) := by decide +kernel
theorem d_M_isLow_22 : decode b_M_isLow 22 = .ok (.goto (-20), 3) := by decide +kernel
theorem d_M_isLow_25 : decode b_M_isLow 25 = .ok (.iconst 1, 1) := by decide +kernel
theorem d_M_isLow_26 : decode b_M_isLow 26 = .ok (.ireturn, 1) := by decide +kernel
abbrev rm_M_isLow : Room := { frames := 0, cells := 0, slots := 0, locals := 0 }
abbrev q_M_isLow (D : va_G) (cy : Nat → ClassId) (A : Nat → Prop) (o : Nat) (q : Nat → Nat) (z : Nat → Int32) (g_target : Nat → Int32) (res : Int32) : Array Value → State → Outcome → State → Prop := va_Qi (fun r' (_ : Unit) => r' = res) (fun _ t => Po D cy A [(o, .inr (12, mo q z)), ((q 38), .inl (cy 1, 8, .inl g_target))] t) A
def I_M_isLow_2 (p : Program) (l : Launch) (e : Env) (s : State) (m : MethodId) (args : Array Value) (below : List Frame) (meth : Method) (c : Code) (D : va_G) (cy : Nat → ClassId) (A : Nat → Prop) (ad : Nat → Nat) (o : Nat) (q : Nat → Nat) (z : Nat → Int32) (g_target : Nat → Int32) (k : Int32 → Option (Int32)) : Prop :=
  ∀ (x1 : Int32) (res : Int32), k x1 = some res → ∀ (H : Heap) (locs : List Loc) (ls : Array Slot), va_P D classes [(o, .inr (12, mo q z)), ((q 38), .inl (cy 1, 8, .inl g_target))] H → va_D A [(o, .inr (12, mo q z)), ((q 38), .inl (cy 1, 8, .inl g_target))] → va_S A s.heap H locs → lv_has ls 2 [(0, .ref o), (1, .int x1)] → W p l e rm_M_isLow s m args below meth c H locs 0 0 (MQ below (q_M_isLow D cy A o q z g_target res) args s 0 0 A) (F0 m 2 ls [])
def I_M_isLow_e (p : Program) (l : Launch) (e : Env) (s : State) (m : MethodId) (args : Array Value) (below : List Frame) (meth : Method) (c : Code) (D : va_G) (cy : Nat → ClassId) (A : Nat → Prop) (ad : Nat → Nat) (o : Nat) (q : Nat → Nat) (z : Nat → Int32) (g_target : Nat → Int32) (k : Option (Int32)) : Prop :=
  ∀ (res : Int32), k  = some res → ∀ (H : Heap) (locs : List Loc) (ls : Array Slot), va_P D classes [(o, .inr (12, mo q z)), ((q 38), .inl (cy 1, 8, .inl g_target))] H → va_D A [(o, .inr (12, mo q z)), ((q 38), .inl (cy 1, 8, .inl g_target))] → va_S A s.heap H locs → lv_has ls 2 [(0, .ref o)] → W p l e rm_M_isLow s m args below meth c H locs 0 0 (MQ below (q_M_isLow D cy A o q z g_target res) args s 0 0 A) (F0 m 0 ls [])
set_option maxHeartbeats 8000000 in
set_option maxRecDepth 100000 in
theorem wb_M_isLow_2 {p : Program} {l : Launch} {e : Env} {s : State} {m : MethodId} {args : Array Value} {below : List Frame} {meth : Method} {c : Code} {D : va_G} {cy : Nat → ClassId} {A : Nat → Prop} {ad : Nat → Nat} {o : Nat} {q : Nat → Nat} {z : Nat → Int32} {g_target : Nat → Int32} {fu : Nat} {k_2 : Int32 → Option (Int32)} (F : Fx p s m args meth c b_M_isLow 2 "CoinKeeperModel" "isLow" (some .boolean) D cy ad A) (hk_2 : I_M_isLow_2 p l e s m args below meth c D cy A ad o q z g_target k_2) : I_M_isLow_2 p l e s m args below meth c D cy A ad o q z g_target (xb_M_isLow_2 fu z g_target k_2) := by
  obtain ⟨hx, hb, hr, hml, hown, hts, hlocks, hK, hA, hSt, hnm, hex⟩ := id F
  intro x1 res hf H locs ls hP hD hS hl
  unfold xb_M_isLow_2 at hf
  refine lv_iload_n hx hb d_M_isLow_2 rfl (lv_at hl 1 rfl) ?_
  refine lv_bipush (v := 7) hx hb d_M_isLow_3 (by decide) ?_
  refine lv_icmp_ge (tgt := 25) hx hb d_M_isLow_5 (by decide) (fun cx => ?_) (fun cx => ?_)
  · have hf := ifp cx hf
    refine lv_iconst (v := 1) hx hb d_M_isLow_25 (by decide) ?_
    obtain rfl := Option.some.inj hf
    exact q_rz hx hb hr hlocks hK hP hD hS (isb_n (v := 1) (by decide)) d_M_isLow_26
  · have hf := ifn cx hf
    refine lv_aload_n hx hb d_M_isLow_8 rfl (lv_at hl 0 rfl) ?_
    refine va_get (D := D) (ci := 12) (v := .ref (q 38)) (C := "CoinKeeperModel") (T := F_12) (N := 98) hx hb hts i_12 hown hK hP 0 rfl rfl 46 (by decide) (hts _ gw_1465) (fun _ h9 => h9) rfl d_M_isLow_9 ?_
    refine lv_iload_n hx hb d_M_isLow_12 rfl (lv_at hl 1 rfl) ?_
    obtain ⟨hg, hf⟩ := gdp hf
    refine va_iald hx hb hK hP 1 1 rfl rfl (inb_in hg) d_M_isLow_13 ?_
    refine lv_topi (fun v1 ev => ?_)
    have hf := bn ev hf
    clear ev
    refine lv_if_eq (tgt := 19) hx hb d_M_isLow_14 (by decide) (fun cx => ?_) (fun cx => ?_)
    · have hf := ifp cx hf
      obtain ⟨v2, ev, hf⟩ := bne hf
      refine lv_iinc (v := v2) (lv' := [(1, .int v2), (0, .ref o)]) hx hb d_M_isLow_19 hl (k := 1) rfl (by rw [ev]; rfl) (by decide) rfl (fun ls hl => ?_)
      clear ev
      refine lv_goto (tgt := 2) hx hb d_M_isLow_22 (by decide) ?_
      exact hk_2 _ _ hf _ _ _ hP hD hS (lv_sub hl [1, 0] rfl)
    · have hf := ifn cx hf
      refine lv_iconst (v := 0) hx hb d_M_isLow_17 (by decide) ?_
      obtain rfl := Option.some.inj hf
      exact q_rz hx hb hr hlocks hK hP hD hS (isb_n (v := 0) (by decide)) d_M_isLow_18
theorem w_M_isLow_2 {p : Program} {l : Launch} {e : Env} {s : State} {m : MethodId} {args : Array Value} {below : List Frame} {meth : Method} {c : Code} {D : va_G} {cy : Nat → ClassId} {A : Nat → Prop} {ad : Nat → Nat} {o : Nat} {q : Nat → Nat} {z : Nat → Int32} {g_target : Nat → Int32} {fu : Nat} (F : Fx p s m args meth c b_M_isLow 2 "CoinKeeperModel" "isLow" (some .boolean) D cy ad A) : ∀ n : Nat, I_M_isLow_2 p l e s m args below meth c D cy A ad o q z g_target (x_M_isLow_2 fu z g_target n)
  | 0 => fun _ _ hf => nomatch (show (none : Option (Int32)) = some _ from hf)
  | n + 1 => wb_M_isLow_2 F (w_M_isLow_2 F n)
set_option maxHeartbeats 8000000 in
set_option maxRecDepth 100000 in
theorem we_M_isLow {p : Program} {l : Launch} {e : Env} {s : State} {m : MethodId} {args : Array Value} {below : List Frame} {meth : Method} {c : Code} {D : va_G} {cy : Nat → ClassId} {A : Nat → Prop} {ad : Nat → Nat} {o : Nat} {q : Nat → Nat} {z : Nat → Int32} {g_target : Nat → Int32} {fu : Nat} (F : Fx p s m args meth c b_M_isLow 2 "CoinKeeperModel" "isLow" (some .boolean) D cy ad A) : I_M_isLow_e p l e s m args below meth c D cy A ad o q z g_target (x_M_isLow fu z g_target) := by
  obtain ⟨hx, hb, hr, hml, hown, hts, hlocks, hK, hA, hSt, hnm, hex⟩ := id F
  intro  res hf H locs ls hP hD hS hl
  unfold x_M_isLow at hf
  refine lv_iconst (v := 0) hx hb d_M_isLow_0 (by decide) ?_
  refine lv_istore_n (lv' := [(1, .int (0 : Int32)), (0, .ref o)]) hx hb d_M_isLow_1 rfl hl (by decide) rfl (fun ls hl => ?_)
  exact w_M_isLow_2 F fu _ _ hf _ _ _ hP hD hS (lv_sub hl [1, 0] rfl)
theorem c_M_isLow (l : Launch) (D : va_G) (cy : Nat → ClassId) (ad : Nat → Nat) (fu : Nat) (o : Nat) (q : Nat → Nat) (z : Nat → Int32) (g_target : Nat → Int32) (res : Int32) (hf : x_M_isLow fu z g_target = some res) (sz : Nat) : Met l ({ cls := "CoinKeeperModel", name := "isLow", desc := "()Z" } : Jvm.MethodName) (.code ({ cls := "CoinKeeperModel", name := "isLow", desc := "()Z" } : Jvm.MethodName) b_M_isLow 2 (some .boolean) :: gw) rm_M_isLow (va_Pc [.ref o] (Pr D cy ad [(o, .inr (12, mo q z)), ((q 38), .inl (cy 1, 8, .inl g_target))] sz)) (q_M_isLow D cy (va_A [(o, .inr (12, mo q z)), ((q 38), .inl (cy 1, 8, .inl g_target))] sz) o q z g_target res) 0 0 (va_A [(o, .inr (12, mo q z)), ((q 38), .inl (cy 1, 8, .inl g_target))] sz) :=
  q_met (Qc := fun A => q_M_isLow D cy A o q z g_target res) (by decide) rfl rfl (Nat.le_of_ble_eq_true rfl) (fun p e s m below meth c ls F hP hD hS hl => we_M_isLow (fu := fu) F  res hf _ _ _ hP hD hS hl) sz
abbrev b_M_target : ByteArray := prog_14_method_17_code
theorem d_M_target_0 : decode b_M_target 0 = .ok (.iload_n 1, 1) := by decide +kernel
theorem d_M_target_1 : decode b_M_target 1 = .ok (.bipush 24, 2) := by decide +kernel
theorem d_M_target_3 : decode b_M_target 3 = .ok (.iushr, 1) := by decide +kernel
theorem d_M_target_4 : decode b_M_target 4 = .ok (.istore_n 2, 1) := by decide +kernel
theorem d_M_target_5 : decode b_M_target 5 = .ok (.iload_n 1, 1) := by decide +kernel
theorem d_M_target_6 : decode b_M_target 6 = .ok (.ldc_w 353, 3) := by decide +kernel
theorem d_M_target_9 : decode b_M_target 9 = .ok (.iand, 1) := by decide +kernel
theorem d_M_target_10 : decode b_M_target 10 = .ok (.istore_n 3, 1) := by decide +kernel
theorem d_M_target_11 : decode b_M_target 11 = .ok (.iconst 0, 1) := by decide +kernel
theorem d_M_target_12 : decode b_M_target 12 = .ok (.istore 4, 2) := by decide +kernel
theorem d_M_target_14 : decode b_M_target 14 = .ok (.iload 4, 2) := by decide +kernel
theorem d_M_target_16 : decode b_M_target 16 = .ok (.bipush 8, 2) := by decide +kernel
theorem d_M_target_18 : decode b_M_target 18 = .ok (.if_icmp .ge 17, 3) := by decide +kernel
theorem d_M_target_21 : decode b_M_target 21 = .ok (.aload_n 0, 1) := by decide +kernel
theorem d_M_target_22 : decode b_M_target 22 = .ok (.getfield 130, 3) := by decide +kernel
theorem d_M_target_25 : decode b_M_target 25 = .ok (.iload 4, 2) := by decide +kernel
theorem d_M_target_27 : decode b_M_target 27 = .ok (.iconst 0, 1) := by decide +kernel
theorem d_M_target_28 : decode b_M_target 28 = .ok (.iastore, 1) := by decide +kernel
theorem d_M_target_29 : decode b_M_target 29 = .ok (.iinc 4 1, 3) := by decide +kernel
theorem d_M_target_32 : decode b_M_target 32 = .ok (.goto (-18), 3) := by decide +kernel
theorem d_M_target_35 : decode b_M_target 35 = .ok (.iload_n 3, 1) := by decide +kernel
theorem d_M_target_36 : decode b_M_target 36 = .ok (.ldc_w 354, 3) := by decide +kernel
theorem d_M_target_39 : decode b_M_target 39 = .ok (.iand, 1) := by decide +kernel
theorem d_M_target_40 : decode b_M_target 40 = .ok (.ifCond .eq 5, 3) := by decide +kernel
theorem d_M_target_43 : decode b_M_target 43 = .ok (.iconst 0, 1) := by decide +kernel
theorem d_M_target_44 : decode b_M_target 44 = .ok (.ireturn, 1) := by decide +kernel
theorem d_M_target_45 : decode b_M_target 45 = .ok (.iconst 0, 1) := by decide +kernel
theorem d_M_target_46 : decode b_M_target 46 = .ok (.istore 4, 2) := by decide +kernel
theorem d_M_target_48 : decode b_M_target 48 = .ok (.iload 4, 2) := by decide +kernel
theorem d_M_target_50 : decode b_M_target 50 = .ok (.iconst 3, 1) := by decide +kernel
theorem d_M_target_51 : decode b_M_target 51 = .ok (.if_icmp .ge 74, 3) := by decide +kernel
theorem d_M_target_54 : decode b_M_target 54 = .ok (.iload_n 3, 1) := by decide +kernel
theorem d_M_target_55 : decode b_M_target 55 = .ok (.bipush 8, 2) := by decide +kernel
theorem d_M_target_57 : decode b_M_target 57 = .ok (.iload 4, 2) := by decide +kernel
theorem d_M_target_59 : decode b_M_target 59 = .ok (.imul, 1) := by decide +kernel
theorem d_M_target_60 : decode b_M_target 60 = .ok (.ishr, 1) := by decide +kernel
theorem d_M_target_61 : decode b_M_target 61 = .ok (.sipush 255, 3) := by decide +kernel
theorem d_M_target_64 : decode b_M_target 64 = .ok (.iand, 1) := by decide +kernel
theorem d_M_target_65 : decode b_M_target 65 = .ok (.istore 5, 2) := by decide +kernel
theorem d_M_target_67 : decode b_M_target 67 = .ok (.iload_n 2, 1) := by decide +kernel
theorem d_M_target_68 : decode b_M_target 68 = .ok (.iconst 3, 1) := by decide +kernel
theorem d_M_target_69 : decode b_M_target 69 = .ok (.isub, 1) := by decide +kernel
theorem d_M_target_70 : decode b_M_target 70 = .ok (.iload 4, 2) := by decide +kernel
theorem d_M_target_72 : decode b_M_target 72 = .ok (.iadd, 1) := by decide +kernel
theorem d_M_target_73 : decode b_M_target 73 = .ok (.istore 6, 2) := by decide +kernel
theorem d_M_target_75 : decode b_M_target 75 = .ok (.iload 5, 2) := by decide +kernel
theorem d_M_target_77 : decode b_M_target 77 = .ok (.ifCond .eq 42, 3) := by decide +kernel
theorem d_M_target_80 : decode b_M_target 80 = .ok (.iload 6, 2) := by decide +kernel
theorem d_M_target_82 : decode b_M_target 82 = .ok (.ifCond .ge 6, 3) := by decide +kernel
theorem d_M_target_85 : decode b_M_target 85 = .ok (.goto 34, 3) := by decide +kernel
theorem d_M_target_88 : decode b_M_target 88 = .ok (.iload 6, 2) := by decide +kernel
theorem d_M_target_90 : decode b_M_target 90 = .ok (.bipush 31, 2) := by decide +kernel
theorem d_M_target_92 : decode b_M_target 92 = .ok (.if_icmp .le 5, 3) := by decide +kernel
theorem d_M_target_95 : decode b_M_target 95 = .ok (.iconst 0, 1) := by decide +kernel
theorem d_M_target_96 : decode b_M_target 96 = .ok (.ireturn, 1) := by decide +kernel
theorem d_M_target_97 : decode b_M_target 97 = .ok (.aload_n 0, 1) := by decide +kernel
theorem d_M_target_98 : decode b_M_target 98 = .ok (.getfield 130, 3) := by decide +kernel
theorem d_M_target_101 : decode b_M_target 101 = .ok (.iload 6, 2) := by decide +kernel
theorem d_M_target_103 : decode b_M_target 103 = .ok (.iconst 4, 1) := by decide +kernel
theorem d_M_target_104 : decode b_M_target 104 = .ok (.idiv, 1) := by decide +kernel
theorem d_M_target_105 : decode b_M_target 105 = .ok (.dup2, 1) := by decide +kernel
theorem d_M_target_106 : decode b_M_target 106 = .ok (.iaload, 1) := by decide +kernel
theorem d_M_target_107 : decode b_M_target 107 = .ok (.iload 5, 2) := by decide +kernel
theorem d_M_target_109 : decode b_M_target 109 = .ok (.bipush 8, 2) := by decide +kernel
theorem d_M_target_111 : decode b_M_target 111 = .ok (.iload 6, 2) := by decide +kernel
theorem d_M_target_113 : decode b_M_target 113 = .ok (.iconst 4, 1) := by decide +kernel
theorem d_M_target_114 : decode b_M_target 114 = .ok (.irem, 1) := by decide +kernel
theorem d_M_target_115 : decode b_M_target 115 = .ok (.imul, 1) := by decide +kernel
theorem d_M_target_116 : decode b_M_target 116 = .ok (.ishl, 1) := by decide +kernel
theorem d_M_target_117 : decode b_M_target 117 = .ok (.ior, 1) := by decide +kernel
theorem d_M_target_118 : decode b_M_target 118 = .ok (.iastore, 1) := by decide +kernel
theorem d_M_target_119 : decode b_M_target 119 = .ok (.iinc 4 1, 3) := by decide +kernel
theorem d_M_target_122 : decode b_M_target 122 = .ok (.goto (-74), 3) := by decide +kernel
theorem d_M_target_125 : decode b_M_target 125 = .ok (.aload_n 0, 1) := by decide +kernel
theorem d_M_target_126 : decode b_M_target 126 = .ok (.getfield 130, 3) := by decide +kernel
theorem d_M_target_129 : decode b_M_target 129 = .ok (.invokestatic 355, 3) := by decide +kernel
theorem d_M_target_132 : decode b_M_target 132 = .ok (.ifCond .ne 50, 3) := by decide +kernel
theorem d_M_target_135 : decode b_M_target 135 = .ok (.aload_n 0, 1) := by decide +kernel
theorem d_M_target_136 : decode b_M_target 136 = .ok (.getfield 130, 3) := by decide +kernel
theorem d_M_target_139 : decode b_M_target 139 = .ok (.bipush 7, 2) := by decide +kernel
theorem d_M_target_141 : decode b_M_target 141 = .ok (.iaload, 1) := by decide +kernel
theorem d_M_target_142 : decode b_M_target 142 = .ok (.ifCond .lt 40, 3) := by decide +kernel
theorem d_M_target_145 : decode b_M_target 145 = .ok (.aload_n 0, 1) := by decide +kernel
theorem d_M_target_146 : decode b_M_target 146 = .ok (.getfield 130, 3) := by decide +kernel
theorem d_M_target_149 : decode b_M_target 149 = .ok (.bipush 7, 2) := by decide +kernel
theorem d_M_target_151 : decode b_M_target 151 = .ok (.iaload, 1) := by decide +kernel
theorem d_M_target_152 : decode b_M_target 152 = .ok (.ldc_w 359, 3) := by decide +kernel
theorem d_M_target_155 : decode b_M_target 155 = .ok (.if_icmp .lt 23, 3) := by decide +kernel
theorem d_M_target_158 : decode b_M_target 158 = .ok (.aload_n 0, 1) := by decide +kernel
theorem d_M_target_159 : decode b_M_target 159 = .ok (.getfield 130, 3) := by decide +kernel
theorem d_M_target_162 : decode b_M_target 162 = .ok (.bipush 7, 2) := by decide +kernel
theorem d_M_target_164 : decode b_M_target 164 = .ok (.iaload, 1) := by decide +kernel
theorem d_M_target_165 : decode b_M_target 165 = .ok (.ldc_w 359, 3) := by decide +kernel
theorem d_M_target_168 : decode b_M_target 168 = .ok (.if_icmp .ne 14, 3) := by decide +kernel
theorem d_M_target_171 : decode b_M_target 171 = .ok (.aload_n 0, 1) := by decide +kernel
theorem d_M_target_172 : decode b_M_target 172 = .ok (.invokevirtual 360, 3) := by decide +kernel
theorem d_M_target_175 : decode b_M_target 175 = .ok (.ifCond .eq 7, 3) := by decide +kernel
theorem d_M_target_178 : decode b_M_target 178 = .ok (.iconst 1, 1) := by decide +kernel
theorem d_M_target_179 : decode b_M_target 179 = .ok (.goto 4, 3) := by decide +kernel
theorem d_M_target_182 : decode b_M_target 182 = .ok (.iconst 0, 1) := by decide +kernel
theorem d_M_target_183 : decode b_M_target 183 = .ok (.ireturn, 1) := by decide +kernel
abbrev rm_M_target : Room := { frames := 1, cells := 0, slots := 0, locals := 21 }
abbrev q_M_target (D : va_G) (cy : Nat → ClassId) (A : Nat → Prop) (o : Nat) (q : Nat → Nat) (z : Nat → Int32) (res : Int32 × (Nat → Int32)) : Array Value → State → Outcome → State → Prop := va_Qi (fun r' (_ : Unit) => r' = res.1) (fun _ t => Po D cy A [(o, .inr (12, mo q z)), ((q 38), .inl (cy 1, 8, .inl res.2))] t) A
def I_M_target_178 (p : Program) (l : Launch) (e : Env) (s : State) (m : MethodId) (args : Array Value) (below : List Frame) (meth : Method) (c : Code) (D : va_G) (cy : Nat → ClassId) (A : Nat → Prop) (ad : Nat → Nat) (o : Nat) (q : Nat → Nat) (z : Nat → Int32) (k : (Nat → Int32) → Option (Int32 × (Nat → Int32))) : Prop :=
  ∀ (u0 : Nat → Int32) (res : Int32 × (Nat → Int32)), k u0 = some res → ∀ (H : Heap) (locs : List Loc) (ls : Array Slot), va_P D classes [(o, .inr (12, mo q z)), ((q 38), .inl (cy 1, 8, .inl u0))] H → va_D A [(o, .inr (12, mo q z)), ((q 38), .inl (cy 1, 8, .inl u0))] → va_S A s.heap H locs → lv_has ls 7 [] → W p l e rm_M_target s m args below meth c H locs 0 0 (MQ below (q_M_target D cy A o q z res) args s 0 0 A) (F0 m 178 ls [])
def I_M_target_119 (p : Program) (l : Launch) (e : Env) (s : State) (m : MethodId) (args : Array Value) (below : List Frame) (meth : Method) (c : Code) (D : va_G) (cy : Nat → ClassId) (A : Nat → Prop) (ad : Nat → Nat) (o : Nat) (q : Nat → Nat) (z : Nat → Int32) (k : Int32 → Int32 → Int32 → (Nat → Int32) → Option (Int32 × (Nat → Int32))) : Prop :=
  ∀ (x2 : Int32) (x3 : Int32) (x4 : Int32) (u0 : Nat → Int32) (res : Int32 × (Nat → Int32)), k x2 x3 x4 u0 = some res → ∀ (H : Heap) (locs : List Loc) (ls : Array Slot), va_P D classes [(o, .inr (12, mo q z)), ((q 38), .inl (cy 1, 8, .inl u0))] H → va_D A [(o, .inr (12, mo q z)), ((q 38), .inl (cy 1, 8, .inl u0))] → va_S A s.heap H locs → lv_has ls 7 [(0, .ref o), (2, .int x2), (3, .int x3), (4, .int x4)] → W p l e rm_M_target s m args below meth c H locs 0 0 (MQ below (q_M_target D cy A o q z res) args s 0 0 A) (F0 m 119 ls [])
def I_M_target_48 (p : Program) (l : Launch) (e : Env) (s : State) (m : MethodId) (args : Array Value) (below : List Frame) (meth : Method) (c : Code) (D : va_G) (cy : Nat → ClassId) (A : Nat → Prop) (ad : Nat → Nat) (o : Nat) (q : Nat → Nat) (z : Nat → Int32) (k : Int32 → Int32 → Int32 → (Nat → Int32) → Option (Int32 × (Nat → Int32))) : Prop :=
  ∀ (x2 : Int32) (x3 : Int32) (x4 : Int32) (u0 : Nat → Int32) (res : Int32 × (Nat → Int32)), k x2 x3 x4 u0 = some res → ∀ (H : Heap) (locs : List Loc) (ls : Array Slot), va_P D classes [(o, .inr (12, mo q z)), ((q 38), .inl (cy 1, 8, .inl u0))] H → va_D A [(o, .inr (12, mo q z)), ((q 38), .inl (cy 1, 8, .inl u0))] → va_S A s.heap H locs → lv_has ls 7 [(0, .ref o), (2, .int x2), (3, .int x3), (4, .int x4)] → W p l e rm_M_target s m args below meth c H locs 0 0 (MQ below (q_M_target D cy A o q z res) args s 0 0 A) (F0 m 48 ls [])
def I_M_target_14 (p : Program) (l : Launch) (e : Env) (s : State) (m : MethodId) (args : Array Value) (below : List Frame) (meth : Method) (c : Code) (D : va_G) (cy : Nat → ClassId) (A : Nat → Prop) (ad : Nat → Nat) (o : Nat) (q : Nat → Nat) (z : Nat → Int32) (k : Int32 → Int32 → Int32 → (Nat → Int32) → Option (Int32 × (Nat → Int32))) : Prop :=
  ∀ (x2 : Int32) (x3 : Int32) (x4 : Int32) (u0 : Nat → Int32) (res : Int32 × (Nat → Int32)), k x2 x3 x4 u0 = some res → ∀ (H : Heap) (locs : List Loc) (ls : Array Slot), va_P D classes [(o, .inr (12, mo q z)), ((q 38), .inl (cy 1, 8, .inl u0))] H → va_D A [(o, .inr (12, mo q z)), ((q 38), .inl (cy 1, 8, .inl u0))] → va_S A s.heap H locs → lv_has ls 7 [(0, .ref o), (2, .int x2), (3, .int x3), (4, .int x4)] → W p l e rm_M_target s m args below meth c H locs 0 0 (MQ below (q_M_target D cy A o q z res) args s 0 0 A) (F0 m 14 ls [])
def I_M_target_e (p : Program) (l : Launch) (e : Env) (s : State) (m : MethodId) (args : Array Value) (below : List Frame) (meth : Method) (c : Code) (D : va_G) (cy : Nat → ClassId) (A : Nat → Prop) (ad : Nat → Nat) (o : Nat) (q : Nat → Nat) (z : Nat → Int32) (k : Int32 → (Nat → Int32) → Option (Int32 × (Nat → Int32))) : Prop :=
  ∀ (a1 : Int32) (u0 : Nat → Int32) (res : Int32 × (Nat → Int32)), k a1 u0 = some res → ∀ (H : Heap) (locs : List Loc) (ls : Array Slot), va_P D classes [(o, .inr (12, mo q z)), ((q 38), .inl (cy 1, 8, .inl u0))] H → va_D A [(o, .inr (12, mo q z)), ((q 38), .inl (cy 1, 8, .inl u0))] → va_S A s.heap H locs → lv_has ls 7 [(0, .ref o), (1, .int a1)] → W p l e rm_M_target s m args below meth c H locs 0 0 (MQ below (q_M_target D cy A o q z res) args s 0 0 A) (F0 m 0 ls [])
set_option maxHeartbeats 8000000 in
set_option maxRecDepth 100000 in
theorem wb_M_target_178 {p : Program} {l : Launch} {e : Env} {s : State} {m : MethodId} {args : Array Value} {below : List Frame} {meth : Method} {c : Code} {D : va_G} {cy : Nat → ClassId} {A : Nat → Prop} {ad : Nat → Nat} {o : Nat} {q : Nat → Nat} {z : Nat → Int32} {fu : Nat} (F : Fx p s m args meth c b_M_target 7 "CoinKeeperModel" "target" (some .boolean) D cy ad A) : I_M_target_178 p l e s m args below meth c D cy A ad o q z (xb_M_target_178 fu z) := by
  obtain ⟨hx, hb, hr, hml, hown, hts, hlocks, hK, hA, hSt, hnm, hex⟩ := id F
  intro u0 res hf H locs ls hP hD hS hl
  unfold xb_M_target_178 at hf
  refine lv_iconst (v := 1) hx hb d_M_target_178 (by decide) ?_
  refine lv_goto (tgt := 183) hx hb d_M_target_179 (by decide) ?_
  obtain rfl := Option.some.inj hf
  exact q_rz hx hb hr hlocks hK hP hD hS (isb_n (v := 1) (by decide)) d_M_target_183
set_option maxHeartbeats 8000000 in
set_option maxRecDepth 100000 in
theorem wb_M_target_119 {p : Program} {l : Launch} {e : Env} {s : State} {m : MethodId} {args : Array Value} {below : List Frame} {meth : Method} {c : Code} {D : va_G} {cy : Nat → ClassId} {A : Nat → Prop} {ad : Nat → Nat} {o : Nat} {q : Nat → Nat} {z : Nat → Int32} {fu : Nat} {k_48 : Int32 → Int32 → Int32 → (Nat → Int32) → Option (Int32 × (Nat → Int32))} (F : Fx p s m args meth c b_M_target 7 "CoinKeeperModel" "target" (some .boolean) D cy ad A) (hk_48 : I_M_target_48 p l e s m args below meth c D cy A ad o q z k_48) : I_M_target_119 p l e s m args below meth c D cy A ad o q z (xb_M_target_119 fu z k_48) := by
  obtain ⟨hx, hb, hr, hml, hown, hts, hlocks, hK, hA, hSt, hnm, hex⟩ := id F
  intro x2 x3 x4 u0 res hf H locs ls hP hD hS hl
  unfold xb_M_target_119 at hf
  obtain ⟨v1, ev, hf⟩ := bne hf
  refine lv_iinc (v := v1) (lv' := [(4, .int v1), (0, .ref o), (2, .int x2), (3, .int x3)]) hx hb d_M_target_119 hl (k := 3) rfl (by rw [ev]; rfl) (by decide) rfl (fun ls hl => ?_)
  clear ev
  refine lv_goto (tgt := 48) hx hb d_M_target_122 (by decide) ?_
  exact hk_48 _ _ _ _ _ hf _ _ _ hP hD hS (lv_sub hl [1, 2, 3, 0] rfl)
theorem hdm_6 : ({ cls := "CoinKeeperModel", name := "isZero", desc := "([I)Z" } : Jvm.MethodName).cls ≠ "java/lang/invoke/MethodHandle" ∧ ({ cls := "CoinKeeperModel", name := "isZero", desc := "([I)Z" } : Jvm.MethodName).cls ≠ "java/lang/invoke/VarHandle" ∧ (parseMethodDescriptor ({ cls := "CoinKeeperModel", name := "isZero", desc := "([I)Z" } : Jvm.MethodName).desc).map (fun d => d.parameters.length) = some 1 := by decide +kernel
theorem hdm_7 : ({ cls := "CoinKeeperModel", name := "isLow", desc := "()Z" } : Jvm.MethodName).cls ≠ "java/lang/invoke/MethodHandle" ∧ ({ cls := "CoinKeeperModel", name := "isLow", desc := "()Z" } : Jvm.MethodName).cls ≠ "java/lang/invoke/VarHandle" ∧ (parseMethodDescriptor ({ cls := "CoinKeeperModel", name := "isLow", desc := "()Z" } : Jvm.MethodName).desc).map (fun d => d.parameters.length) = some 0 := by decide +kernel
set_option maxHeartbeats 8000000 in
set_option maxRecDepth 100000 in
theorem wb_M_target_48 {p : Program} {l : Launch} {e : Env} {s : State} {m : MethodId} {args : Array Value} {below : List Frame} {meth : Method} {c : Code} {D : va_G} {cy : Nat → ClassId} {A : Nat → Prop} {ad : Nat → Nat} {o : Nat} {q : Nat → Nat} {z : Nat → Int32} {fu : Nat} {k_48 : Int32 → Int32 → Int32 → (Nat → Int32) → Option (Int32 × (Nat → Int32))} (F : Fx p s m args meth c b_M_target 7 "CoinKeeperModel" "target" (some .boolean) D cy ad A) (hk_48 : I_M_target_48 p l e s m args below meth c D cy A ad o q z k_48) : I_M_target_48 p l e s m args below meth c D cy A ad o q z (xb_M_target_48 fu z k_48) := by
  obtain ⟨hx, hb, hr, hml, hown, hts, hlocks, hK, hA, hSt, hnm, hex⟩ := id F
  intro x2 x3 x4 u0 res hf H locs ls hP hD hS hl
  unfold xb_M_target_48 at hf
  refine lv_iload hx hb d_M_target_48 (lv_at hl 3 rfl) ?_
  refine lv_iconst (v := 3) hx hb d_M_target_50 (by decide) ?_
  refine lv_icmp_ge (tgt := 125) hx hb d_M_target_51 (by decide) (fun cx => ?_) (fun cx => ?_)
  · have hf := ifp cx hf
    refine lv_aload_n hx hb d_M_target_125 rfl (lv_at hl 0 rfl) ?_
    refine va_get (D := D) (ci := 12) (v := .ref (q 38)) (C := "CoinKeeperModel") (T := F_12) (N := 98) hx hb hts i_12 hown hK hP 0 rfl rfl 46 (by decide) (hts _ gw_1465) (fun _ h9 => h9) rfl d_M_target_126 ?_
    obtain ⟨v1, hc, hf⟩ := bdp1 hf
    refine q_ai (wr := [(o, .inr (12, mo q z))]) (va_runS (As := [.ref (q 38)]) (rest := []) ⟨hx, hb, hml, hown, hts⟩ (c_M_isZero l D cy ad fu (q 38) u0 _ hc H.size) ⟨q_cB hts gw_1377 gw_18 gw_1375 hdm_6 ⟨by decide, by decide⟩, hts _ gw_1376⟩ (q_pre (hP.sub [1] rfl) (hD.sub [1] (by decide) rfl) hK hSt hS (va_free hD hS hA [1] rfl) _) rfl rfl hl.1 rfl (lv_room (Nat.le_of_ble_eq_true rfl)) d_M_target_129 ⟨Nat.le_of_ble_eq_true rfl, Nat.le_of_ble_eq_true rfl⟩) hP hD hS hA [1] [0] rfl rfl (by decide) (by decide) (fun H locs hP hD hS => ?_)
    clear hc
    have hP : va_P D classes [(o, .inr (12, mo q z)), ((q 38), .inl (cy 1, 8, .inl u0))] H := hP
    have hD : va_D A [(o, .inr (12, mo q z)), ((q 38), .inl (cy 1, 8, .inl u0))] := hD
    refine lv_if_ne (tgt := 182) hx hb d_M_target_132 (by decide) (fun cx => ?_) (fun cx => ?_)
    · have hf := ifn cx hf
      refine lv_iconst (v := 0) hx hb d_M_target_182 (by decide) ?_
      obtain rfl := Option.some.inj hf
      exact q_rz hx hb hr hlocks hK hP hD hS (isb_n (v := 0) (by decide)) d_M_target_183
    · have hf := ifp cx hf
      refine lv_aload_n hx hb d_M_target_135 rfl (lv_at hl 0 rfl) ?_
      refine va_get (D := D) (ci := 12) (v := .ref (q 38)) (C := "CoinKeeperModel") (T := F_12) (N := 98) hx hb hts i_12 hown hK hP 0 rfl rfl 46 (by decide) (hts _ gw_1465) (fun _ h9 => h9) rfl d_M_target_136 ?_
      refine lv_bipush (v := 7) hx hb d_M_target_139 (by decide) ?_
      refine va_iald hx hb hK hP 1 1 rfl rfl (inb_in (by decide)) d_M_target_141 ?_
      refine lv_topi (fun v2 ev => ?_)
      have hf := bn ev hf
      clear ev
      refine lv_if_lt (tgt := 182) hx hb d_M_target_142 (by decide) (fun cx => ?_) (fun cx => ?_)
      · have hf := ifp cx hf
        refine lv_iconst (v := 0) hx hb d_M_target_182 (by decide) ?_
        obtain rfl := Option.some.inj hf
        exact q_rz hx hb hr hlocks hK hP hD hS (isb_n (v := 0) (by decide)) d_M_target_183
      · have hf := ifn cx hf
        refine lv_aload_n hx hb d_M_target_145 rfl (lv_at hl 0 rfl) ?_
        refine va_get (D := D) (ci := 12) (v := .ref (q 38)) (C := "CoinKeeperModel") (T := F_12) (N := 98) hx hb hts i_12 hown hK hP 0 rfl rfl 46 (by decide) (hts _ gw_1465) (fun _ h9 => h9) rfl d_M_target_146 ?_
        refine lv_bipush (v := 7) hx hb d_M_target_149 (by decide) ?_
        refine va_iald hx hb hK hP 1 1 rfl rfl (inb_in (by decide)) d_M_target_151 ?_
        refine lv_topi (fun v3 ev => ?_)
        have hf := bn ev hf
        clear ev
        refine lv_ldcw (v := 2147483392) hx hb hown (hts _ gw_1378) d_M_target_152 ?_
        refine lv_icmp_lt (tgt := 178) hx hb d_M_target_155 (by decide) (fun cx => ?_) (fun cx => ?_)
        · have hf := ifp cx hf
          exact wb_M_target_178 (fu := fu) F _ _ hf _ _ _ hP hD hS (lv_sub hl [] rfl)
        · have hf := ifn cx hf
          refine lv_aload_n hx hb d_M_target_158 rfl (lv_at hl 0 rfl) ?_
          refine va_get (D := D) (ci := 12) (v := .ref (q 38)) (C := "CoinKeeperModel") (T := F_12) (N := 98) hx hb hts i_12 hown hK hP 0 rfl rfl 46 (by decide) (hts _ gw_1465) (fun _ h9 => h9) rfl d_M_target_159 ?_
          refine lv_bipush (v := 7) hx hb d_M_target_162 (by decide) ?_
          refine va_iald hx hb hK hP 1 1 rfl rfl (inb_in (by decide)) d_M_target_164 ?_
          refine lv_topi (fun v4 ev => ?_)
          have hf := bn ev hf
          clear ev
          refine lv_ldcw (v := 2147483392) hx hb hown (hts _ gw_1378) d_M_target_165 ?_
          refine lv_icmp_ne (tgt := 182) hx hb d_M_target_168 (by decide) (fun cx => ?_) (fun cx => ?_)
          · have hf := ifn cx hf
            refine lv_iconst (v := 0) hx hb d_M_target_182 (by decide) ?_
            obtain rfl := Option.some.inj hf
            exact q_rz hx hb hr hlocks hK hP hD hS (isb_n (v := 0) (by decide)) d_M_target_183
          · have hf := ifp cx hf
            refine lv_aload_n hx hb d_M_target_171 rfl (lv_at hl 0 rfl) ?_
            obtain ⟨v5, hc, hf⟩ := bdp1 hf
            refine q_ai (wr := []) (va_runV (C := "CoinKeeperModel") (As := []) (rest := []) ⟨hx, hb, hml, hown, hts⟩ (c_M_isLow l D cy ad fu o q z u0 _ hc H.size) ⟨q_cB hts gw_1382 gw_18 gw_1379 hdm_7 ⟨by decide, by decide⟩, hts _ gw_1381, hts _ gs_62⟩ (q_preV (q_pre (hP.sub [0, 1] rfl) (hD.sub [0, 1] (by decide) rfl) hK hSt hS (va_free hD hS hA [0, 1] rfl) _) (va_recv hK (hP.sub [0, 1] rfl) (ci := 12) (q0 := 0) rfl rfl)) rfl rfl hl.1 rfl (lv_room (Nat.le_of_ble_eq_true rfl)) d_M_target_172 ⟨Nat.le_of_ble_eq_true rfl, Nat.le_of_ble_eq_true rfl⟩) hP hD hS hA [0, 1] [] rfl rfl (by decide) (by decide) (fun H locs hP hD hS => ?_)
            clear hc
            have hP : va_P D classes [(o, .inr (12, mo q z)), ((q 38), .inl (cy 1, 8, .inl u0))] H := hP
            have hD : va_D A [(o, .inr (12, mo q z)), ((q 38), .inl (cy 1, 8, .inl u0))] := hD
            refine lv_if_eq (tgt := 182) hx hb d_M_target_175 (by decide) (fun cx => ?_) (fun cx => ?_)
            · have hf := ifp cx hf
              refine lv_iconst (v := 0) hx hb d_M_target_182 (by decide) ?_
              obtain rfl := Option.some.inj hf
              exact q_rz hx hb hr hlocks hK hP hD hS (isb_n (v := 0) (by decide)) d_M_target_183
            · have hf := ifn cx hf
              exact wb_M_target_178 (fu := fu) F _ _ hf _ _ _ hP hD hS (lv_sub hl [] rfl)
  · have hf := ifn cx hf
    refine lv_iload_n hx hb d_M_target_54 rfl (lv_at hl 2 rfl) ?_
    refine lv_bipush (v := 8) hx hb d_M_target_55 (by decide) ?_
    refine lv_iload hx hb d_M_target_57 (lv_at hl 3 rfl) ?_
    refine lv_imul hx hb d_M_target_59 ?_
    refine lv_ishr hx hb d_M_target_60 ?_
    refine lv_topi (fun v6 ev => ?_)
    have hf := bn ev hf
    clear ev
    refine lv_sipush (v := 255) hx hb d_M_target_61 (by decide) ?_
    refine lv_iand hx hb d_M_target_64 ?_
    refine lv_topi (fun v7 ev => ?_)
    have hf := bn ev hf
    clear ev
    refine lv_istore (lv' := [(5, .int v7), (0, .ref o), (2, .int x2), (3, .int x3), (4, .int x4)]) hx hb d_M_target_65 hl (by decide) rfl (fun ls hl => ?_)
    refine lv_iload_n hx hb d_M_target_67 rfl (lv_at hl 2 rfl) ?_
    refine lv_iconst (v := 3) hx hb d_M_target_68 (by decide) ?_
    refine lv_isub hx hb d_M_target_69 ?_
    refine lv_topi (fun v8 ev => ?_)
    have hf := bn ev hf
    clear ev
    refine lv_iload hx hb d_M_target_70 (lv_at hl 4 rfl) ?_
    refine lv_iadd hx hb d_M_target_72 ?_
    refine lv_topi (fun v9 ev => ?_)
    have hf := bn ev hf
    clear ev
    refine lv_istore (lv' := [(6, .int v9), (5, .int v7), (0, .ref o), (2, .int x2), (3, .int x3), (4, .int x4)]) hx hb d_M_target_73 hl (by decide) rfl (fun ls hl => ?_)
    refine lv_iload hx hb d_M_target_75 (lv_at hl 1 rfl) ?_
    refine lv_if_eq (tgt := 119) hx hb d_M_target_77 (by decide) (fun cx => ?_) (fun cx => ?_)
    · have hf := ifp cx hf
      exact wb_M_target_119 (fu := fu) F hk_48 _ _ _ _ _ hf _ _ _ hP hD hS (lv_sub hl [2, 3, 4, 5] rfl)
    · have hf := ifn cx hf
      refine lv_iload hx hb d_M_target_80 (lv_at hl 0 rfl) ?_
      refine lv_if_ge (tgt := 88) hx hb d_M_target_82 (by decide) (fun cx => ?_) (fun cx => ?_)
      · have hf := ifp cx hf
        refine lv_iload hx hb d_M_target_88 (lv_at hl 0 rfl) ?_
        refine lv_bipush (v := 31) hx hb d_M_target_90 (by decide) ?_
        refine lv_icmp_le (tgt := 97) hx hb d_M_target_92 (by decide) (fun cx => ?_) (fun cx => ?_)
        · have hf := ifp cx hf
          refine lv_aload_n hx hb d_M_target_97 rfl (lv_at hl 2 rfl) ?_
          refine va_get (D := D) (ci := 12) (v := .ref (q 38)) (C := "CoinKeeperModel") (T := F_12) (N := 98) hx hb hts i_12 hown hK hP 0 rfl rfl 46 (by decide) (hts _ gw_1465) (fun _ h9 => h9) rfl d_M_target_98 ?_
          refine lv_iload hx hb d_M_target_101 (lv_at hl 0 rfl) ?_
          refine lv_iconst (v := 4) hx hb d_M_target_103 (by decide) ?_
          refine lv_idiv hx hb d_M_target_104 (by decide) ?_
          refine lv_topi (fun v10 ev => ?_)
          have hf := bn ev hf
          clear ev
          refine lv_dup2_11 hx hb d_M_target_105 rfl rfl ?_
          obtain ⟨hg, hf⟩ := gdp hf
          refine va_iald hx hb hK hP 1 1 rfl rfl (inb_in hg) d_M_target_106 ?_
          refine lv_topi (fun v11 ev => ?_)
          have hf := bn ev hf
          clear ev
          refine lv_iload hx hb d_M_target_107 (lv_at hl 1 rfl) ?_
          refine lv_bipush (v := 8) hx hb d_M_target_109 (by decide) ?_
          refine lv_iload hx hb d_M_target_111 (lv_at hl 0 rfl) ?_
          refine lv_iconst (v := 4) hx hb d_M_target_113 (by decide) ?_
          refine lv_irem hx hb d_M_target_114 (by decide) ?_
          refine lv_imul hx hb d_M_target_115 ?_
          refine lv_ishl hx hb d_M_target_116 ?_
          refine lv_ior hx hb d_M_target_117 ?_
          refine lv_topi (fun v12 ev => ?_)
          have hf := bn ev hf
          clear ev
          obtain ⟨hg, hf⟩ := gdp hf
          refine va_iast hx hb hK hP hD hS 1 1 rfl rfl (inb_in hg) d_M_target_118 (fun H locs hP hD hS => ?_)
          obtain ⟨f13, ev, hf⟩ := bne hf
          have hP : va_P D classes [(o, .inr (12, mo q z)), ((q 38), .inl (cy 1, 8, .inl f13))] H := by rw [ev]; exact hP
          have hD : va_D A [(o, .inr (12, mo q z)), ((q 38), .inl (cy 1, 8, .inl f13))] := by rw [ev]; exact hD
          clear ev
          exact wb_M_target_119 (fu := fu) F hk_48 _ _ _ _ _ hf _ _ _ hP hD hS (lv_sub hl [2, 3, 4, 5] rfl)
        · have hf := ifn cx hf
          refine lv_iconst (v := 0) hx hb d_M_target_95 (by decide) ?_
          obtain rfl := Option.some.inj hf
          exact q_rz hx hb hr hlocks hK hP hD hS (isb_n (v := 0) (by decide)) d_M_target_96
      · have hf := ifn cx hf
        refine lv_goto (tgt := 119) hx hb d_M_target_85 (by decide) ?_
        exact wb_M_target_119 (fu := fu) F hk_48 _ _ _ _ _ hf _ _ _ hP hD hS (lv_sub hl [2, 3, 4, 5] rfl)
theorem w_M_target_48 {p : Program} {l : Launch} {e : Env} {s : State} {m : MethodId} {args : Array Value} {below : List Frame} {meth : Method} {c : Code} {D : va_G} {cy : Nat → ClassId} {A : Nat → Prop} {ad : Nat → Nat} {o : Nat} {q : Nat → Nat} {z : Nat → Int32} {fu : Nat} (F : Fx p s m args meth c b_M_target 7 "CoinKeeperModel" "target" (some .boolean) D cy ad A) : ∀ n : Nat, I_M_target_48 p l e s m args below meth c D cy A ad o q z (x_M_target_48 fu z n)
  | 0 => fun _ _ _ _ _ hf => nomatch (show (none : Option (Int32 × (Nat → Int32))) = some _ from hf)
  | n + 1 => wb_M_target_48 F (w_M_target_48 F n)
set_option maxHeartbeats 8000000 in
set_option maxRecDepth 100000 in
theorem wb_M_target_14 {p : Program} {l : Launch} {e : Env} {s : State} {m : MethodId} {args : Array Value} {below : List Frame} {meth : Method} {c : Code} {D : va_G} {cy : Nat → ClassId} {A : Nat → Prop} {ad : Nat → Nat} {o : Nat} {q : Nat → Nat} {z : Nat → Int32} {fu : Nat} {k_14 : Int32 → Int32 → Int32 → (Nat → Int32) → Option (Int32 × (Nat → Int32))} (F : Fx p s m args meth c b_M_target 7 "CoinKeeperModel" "target" (some .boolean) D cy ad A) (hk_14 : I_M_target_14 p l e s m args below meth c D cy A ad o q z k_14) : I_M_target_14 p l e s m args below meth c D cy A ad o q z (xb_M_target_14 fu z k_14) := by
  obtain ⟨hx, hb, hr, hml, hown, hts, hlocks, hK, hA, hSt, hnm, hex⟩ := id F
  intro x2 x3 x4 u0 res hf H locs ls hP hD hS hl
  unfold xb_M_target_14 at hf
  refine lv_iload hx hb d_M_target_14 (lv_at hl 3 rfl) ?_
  refine lv_bipush (v := 8) hx hb d_M_target_16 (by decide) ?_
  refine lv_icmp_ge (tgt := 35) hx hb d_M_target_18 (by decide) (fun cx => ?_) (fun cx => ?_)
  · have hf := ifp cx hf
    refine lv_iload_n hx hb d_M_target_35 rfl (lv_at hl 2 rfl) ?_
    refine lv_ldcw (v := 8388608) hx hb hown (hts _ gw_1374) d_M_target_36 ?_
    refine lv_iand hx hb d_M_target_39 ?_
    refine lv_if_eq (tgt := 45) hx hb d_M_target_40 (by decide) (fun cx => ?_) (fun cx => ?_)
    · have hf := ifp cx hf
      refine lv_iconst (v := 0) hx hb d_M_target_45 (by decide) ?_
      refine lv_istore (lv' := [(4, .int (0 : Int32)), (0, .ref o), (2, .int x2), (3, .int x3)]) hx hb d_M_target_46 hl (by decide) rfl (fun ls hl => ?_)
      exact w_M_target_48 F fu _ _ _ _ _ hf _ _ _ hP hD hS (lv_sub hl [1, 2, 3, 0] rfl)
    · have hf := ifn cx hf
      refine lv_iconst (v := 0) hx hb d_M_target_43 (by decide) ?_
      obtain rfl := Option.some.inj hf
      exact q_rz hx hb hr hlocks hK hP hD hS (isb_n (v := 0) (by decide)) d_M_target_44
  · have hf := ifn cx hf
    refine lv_aload_n hx hb d_M_target_21 rfl (lv_at hl 0 rfl) ?_
    refine va_get (D := D) (ci := 12) (v := .ref (q 38)) (C := "CoinKeeperModel") (T := F_12) (N := 98) hx hb hts i_12 hown hK hP 0 rfl rfl 46 (by decide) (hts _ gw_1465) (fun _ h9 => h9) rfl d_M_target_22 ?_
    refine lv_iload hx hb d_M_target_25 (lv_at hl 3 rfl) ?_
    refine lv_iconst (v := 0) hx hb d_M_target_27 (by decide) ?_
    obtain ⟨hg, hf⟩ := gdp hf
    refine va_iast hx hb hK hP hD hS 1 1 rfl rfl (inb_in hg) d_M_target_28 (fun H locs hP hD hS => ?_)
    obtain ⟨f1, ev, hf⟩ := bne hf
    have hP : va_P D classes [(o, .inr (12, mo q z)), ((q 38), .inl (cy 1, 8, .inl f1))] H := by rw [ev]; exact hP
    have hD : va_D A [(o, .inr (12, mo q z)), ((q 38), .inl (cy 1, 8, .inl f1))] := by rw [ev]; exact hD
    clear ev
    obtain ⟨v2, ev, hf⟩ := bne hf
    refine lv_iinc (v := v2) (lv' := [(4, .int v2), (0, .ref o), (2, .int x2), (3, .int x3)]) hx hb d_M_target_29 hl (k := 3) rfl (by rw [ev]; rfl) (by decide) rfl (fun ls hl => ?_)
    clear ev
    refine lv_goto (tgt := 14) hx hb d_M_target_32 (by decide) ?_
    exact hk_14 _ _ _ _ _ hf _ _ _ hP hD hS (lv_sub hl [1, 2, 3, 0] rfl)
theorem w_M_target_14 {p : Program} {l : Launch} {e : Env} {s : State} {m : MethodId} {args : Array Value} {below : List Frame} {meth : Method} {c : Code} {D : va_G} {cy : Nat → ClassId} {A : Nat → Prop} {ad : Nat → Nat} {o : Nat} {q : Nat → Nat} {z : Nat → Int32} {fu : Nat} (F : Fx p s m args meth c b_M_target 7 "CoinKeeperModel" "target" (some .boolean) D cy ad A) : ∀ n : Nat, I_M_target_14 p l e s m args below meth c D cy A ad o q z (x_M_target_14 fu z n)
  | 0 => fun _ _ _ _ _ hf => nomatch (show (none : Option (Int32 × (Nat → Int32))) = some _ from hf)
  | n + 1 => wb_M_target_14 F (w_M_target_14 F n)
set_option maxHeartbeats 8000000 in
set_option maxRecDepth 100000 in
theorem we_M_target {p : Program} {l : Launch} {e : Env} {s : State} {m : MethodId} {args : Array Value} {below : List Frame} {meth : Method} {c : Code} {D : va_G} {cy : Nat → ClassId} {A : Nat → Prop} {ad : Nat → Nat} {o : Nat} {q : Nat → Nat} {z : Nat → Int32} {fu : Nat} (F : Fx p s m args meth c b_M_target 7 "CoinKeeperModel" "target" (some .boolean) D cy ad A) : I_M_target_e p l e s m args below meth c D cy A ad o q z (x_M_target fu z) := by
  obtain ⟨hx, hb, hr, hml, hown, hts, hlocks, hK, hA, hSt, hnm, hex⟩ := id F
  intro a1 u0 res hf H locs ls hP hD hS hl
  unfold x_M_target at hf
  refine lv_iload_n hx hb d_M_target_0 rfl (lv_at hl 1 rfl) ?_
  refine lv_bipush (v := 24) hx hb d_M_target_1 (by decide) ?_
  refine lv_iushr hx hb d_M_target_3 rfl ?_
  refine lv_topi (fun v1 ev => ?_)
  have hf := bn ev hf
  clear ev
  refine lv_istore_n (lv' := [(2, .int v1), (0, .ref o), (1, .int a1)]) hx hb d_M_target_4 rfl hl (by decide) rfl (fun ls hl => ?_)
  refine lv_iload_n hx hb d_M_target_5 rfl (lv_at hl 2 rfl) ?_
  refine lv_ldcw (v := 16777215) hx hb hown (hts _ gw_1373) d_M_target_6 ?_
  refine lv_iand hx hb d_M_target_9 ?_
  refine lv_topi (fun v2 ev => ?_)
  have hf := bn ev hf
  clear ev
  refine lv_istore_n (lv' := [(3, .int v2), (2, .int v1), (0, .ref o), (1, .int a1)]) hx hb d_M_target_10 rfl hl (by decide) rfl (fun ls hl => ?_)
  refine lv_iconst (v := 0) hx hb d_M_target_11 (by decide) ?_
  refine lv_istore (lv' := [(4, .int (0 : Int32)), (3, .int v2), (2, .int v1), (0, .ref o), (1, .int a1)]) hx hb d_M_target_12 hl (by decide) rfl (fun ls hl => ?_)
  exact w_M_target_14 F fu _ _ _ _ _ hf _ _ _ hP hD hS (lv_sub hl [3, 2, 1, 0] rfl)
theorem c_M_target (l : Launch) (D : va_G) (cy : Nat → ClassId) (ad : Nat → Nat) (fu : Nat) (o : Nat) (q : Nat → Nat) (z : Nat → Int32) (a1 : Int32) (u0 : Nat → Int32) (res : Int32 × (Nat → Int32)) (hf : x_M_target fu z a1 u0 = some res) (sz : Nat) : Met l ({ cls := "CoinKeeperModel", name := "target", desc := "(I)Z" } : Jvm.MethodName) (.code ({ cls := "CoinKeeperModel", name := "target", desc := "(I)Z" } : Jvm.MethodName) b_M_target 7 (some .boolean) :: gw) rm_M_target (va_Pc [.ref o, .int a1] (Pr D cy ad [(o, .inr (12, mo q z)), ((q 38), .inl (cy 1, 8, .inl u0))] sz)) (q_M_target D cy (va_A [(o, .inr (12, mo q z)), ((q 38), .inl (cy 1, 8, .inl u0))] sz) o q z res) 0 0 (va_A [(o, .inr (12, mo q z)), ((q 38), .inl (cy 1, 8, .inl u0))] sz) :=
  q_met (Qc := fun A => q_M_target D cy A o q z res) (by decide) rfl rfl (Nat.le_of_ble_eq_true rfl) (fun p e s m below meth c ls F hP hD hS hl => we_M_target (fu := fu) F a1 u0 res hf _ _ _ hP hD hS hl) sz
abbrev b_M_byteOf : ByteArray := prog_14_method_20_code
theorem d_M_byteOf_0 : decode b_M_byteOf 0 = .ok (.iload_n 1, 1) := by decide +kernel
theorem d_M_byteOf_1 : decode b_M_byteOf 1 = .ok (.ifCond .ge 7, 3) := by decide +kernel
theorem d_M_byteOf_4 : decode b_M_byteOf 4 = .ok (.iconst 0, 1) := by decide +kernel
theorem d_M_byteOf_5 : decode b_M_byteOf 5 = .ok (.goto 19, 3) := by decide +kernel
theorem d_M_byteOf_8 : decode b_M_byteOf 8 = .ok (.aload_n 0, 1) := by decide +kernel
theorem d_M_byteOf_9 : decode b_M_byteOf 9 = .ok (.iload_n 1, 1) := by decide +kernel
theorem d_M_byteOf_10 : decode b_M_byteOf 10 = .ok (.iconst 4, 1) := by decide +kernel
theorem d_M_byteOf_11 : decode b_M_byteOf 11 = .ok (.idiv, 1) := by decide +kernel
theorem d_M_byteOf_12 : decode b_M_byteOf 12 = .ok (.iaload, 1) := by decide +kernel
theorem d_M_byteOf_13 : decode b_M_byteOf 13 = .ok (.bipush 8, 2) := by decide +kernel
theorem d_M_byteOf_15 : decode b_M_byteOf 15 = .ok (.iload_n 1, 1) := by decide +kernel
theorem d_M_byteOf_16 : decode b_M_byteOf 16 = .ok (.iconst 4, 1) := by decide +kernel
theorem d_M_byteOf_17 : decode b_M_byteOf 17 = .ok (.irem, 1) := by decide +kernel
theorem d_M_byteOf_18 : decode b_M_byteOf 18 = .ok (.imul, 1) := by decide +kernel
theorem d_M_byteOf_19 : decode b_M_byteOf 19 = .ok (.iushr, 1) := by decide +kernel
theorem d_M_byteOf_20 : decode b_M_byteOf 20 = .ok (.sipush 255, 3) := by decide +kernel
theorem d_M_byteOf_23 : decode b_M_byteOf 23 = .ok (.iand, 1) := by decide +kernel
theorem d_M_byteOf_24 : decode b_M_byteOf 24 = .ok (.ireturn, 1) := by decide +kernel
abbrev rm_M_byteOf : Room := { frames := 0, cells := 0, slots := 0, locals := 0 }
abbrev q_M_byteOf (D : va_G) (cy : Nat → ClassId) (A : Nat → Prop) (b0 : Nat) (h0 : Nat → Int32) (res : Int32) : Array Value → State → Outcome → State → Prop := va_Qi (fun r' (_ : Unit) => r' = res) (fun _ t => Po D cy A [(b0, .inl (cy 1, 8, .inl h0))] t) A
def I_M_byteOf_e (p : Program) (l : Launch) (e : Env) (s : State) (m : MethodId) (args : Array Value) (below : List Frame) (meth : Method) (c : Code) (D : va_G) (cy : Nat → ClassId) (A : Nat → Prop) (ad : Nat → Nat) (b0 : Nat) (h0 : Nat → Int32) (k : Int32 → Option (Int32)) : Prop :=
  ∀ (a1 : Int32) (res : Int32), k a1 = some res → ∀ (H : Heap) (locs : List Loc) (ls : Array Slot), va_P D classes [(b0, .inl (cy 1, 8, .inl h0))] H → va_D A [(b0, .inl (cy 1, 8, .inl h0))] → va_S A s.heap H locs → lv_has ls 2 [(0, .ref b0), (1, .int a1)] → W p l e rm_M_byteOf s m args below meth c H locs 0 0 (MQ below (q_M_byteOf D cy A b0 h0 res) args s 0 0 A) (F0 m 0 ls [])
set_option maxHeartbeats 8000000 in
set_option maxRecDepth 100000 in
theorem we_M_byteOf {p : Program} {l : Launch} {e : Env} {s : State} {m : MethodId} {args : Array Value} {below : List Frame} {meth : Method} {c : Code} {D : va_G} {cy : Nat → ClassId} {A : Nat → Prop} {ad : Nat → Nat} {b0 : Nat} {h0 : Nat → Int32} {fu : Nat} (F : Fx p s m args meth c b_M_byteOf 2 "CoinKeeperModel" "byteOf" (some .int) D cy ad A) : I_M_byteOf_e p l e s m args below meth c D cy A ad b0 h0 (x_M_byteOf fu h0) := by
  obtain ⟨hx, hb, hr, hml, hown, hts, hlocks, hK, hA, hSt, hnm, hex⟩ := id F
  intro a1 res hf H locs ls hP hD hS hl
  unfold x_M_byteOf at hf
  refine lv_iload_n hx hb d_M_byteOf_0 rfl (lv_at hl 1 rfl) ?_
  refine lv_if_ge (tgt := 8) hx hb d_M_byteOf_1 (by decide) (fun cx => ?_) (fun cx => ?_)
  · have hf := ifp cx hf
    refine lv_aload_n hx hb d_M_byteOf_8 rfl (lv_at hl 0 rfl) ?_
    refine lv_iload_n hx hb d_M_byteOf_9 rfl (lv_at hl 1 rfl) ?_
    refine lv_iconst (v := 4) hx hb d_M_byteOf_10 (by decide) ?_
    refine lv_idiv hx hb d_M_byteOf_11 (by decide) ?_
    refine lv_topi (fun v1 ev => ?_)
    have hf := bn ev hf
    clear ev
    obtain ⟨hg, hf⟩ := gdp hf
    refine va_iald hx hb hK hP 0 1 rfl rfl (inb_in hg) d_M_byteOf_12 ?_
    refine lv_topi (fun v2 ev => ?_)
    have hf := bn ev hf
    clear ev
    refine lv_bipush (v := 8) hx hb d_M_byteOf_13 (by decide) ?_
    refine lv_iload_n hx hb d_M_byteOf_15 rfl (lv_at hl 1 rfl) ?_
    refine lv_iconst (v := 4) hx hb d_M_byteOf_16 (by decide) ?_
    refine lv_irem hx hb d_M_byteOf_17 (by decide) ?_
    refine lv_imul hx hb d_M_byteOf_18 ?_
    refine lv_iushr hx hb d_M_byteOf_19 rfl ?_
    refine lv_topi (fun v3 ev => ?_)
    have hf := bn ev hf
    clear ev
    refine lv_sipush (v := 255) hx hb d_M_byteOf_20 (by decide) ?_
    refine lv_iand hx hb d_M_byteOf_23 ?_
    refine lv_topi (fun v4 ev => ?_)
    have hf := bn ev hf
    clear ev
    obtain rfl := Option.some.inj hf
    exact q_ri hx hb hr hlocks hK hP hD hS d_M_byteOf_24
  · have hf := ifn cx hf
    refine lv_iconst (v := 0) hx hb d_M_byteOf_4 (by decide) ?_
    refine lv_goto (tgt := 24) hx hb d_M_byteOf_5 (by decide) ?_
    obtain rfl := Option.some.inj hf
    exact q_ri hx hb hr hlocks hK hP hD hS d_M_byteOf_24
theorem c_M_byteOf (l : Launch) (D : va_G) (cy : Nat → ClassId) (ad : Nat → Nat) (fu : Nat) (b0 : Nat) (h0 : Nat → Int32) (a1 : Int32) (res : Int32) (hf : x_M_byteOf fu h0 a1 = some res) (sz : Nat) : Met l ({ cls := "CoinKeeperModel", name := "byteOf", desc := "([II)I" } : Jvm.MethodName) (.code ({ cls := "CoinKeeperModel", name := "byteOf", desc := "([II)I" } : Jvm.MethodName) b_M_byteOf 2 (some .int) :: gw) rm_M_byteOf (va_Pc [.ref b0, .int a1] (Pr D cy ad [(b0, .inl (cy 1, 8, .inl h0))] sz)) (q_M_byteOf D cy (va_A [(b0, .inl (cy 1, 8, .inl h0))] sz) b0 h0 res) 0 0 (va_A [(b0, .inl (cy 1, 8, .inl h0))] sz) :=
  q_met (Qc := fun A => q_M_byteOf D cy A b0 h0 res) (by decide) rfl rfl (Nat.le_of_ble_eq_true rfl) (fun p e s m below meth c ls F hP hD hS hl => we_M_byteOf (fu := fu) F a1 res hf _ _ _ hP hD hS hl) sz
