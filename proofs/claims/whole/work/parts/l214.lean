abbrev b_Ma_holds : ByteArray := prog_7_method_26_code
theorem d_Ma_holds_0 : decode b_Ma_holds 0 = .ok (.iload_n 0, 1) := by decide +kernel
theorem d_Ma_holds_1 : decode b_Ma_holds 1 = .ok (.tableswitch 147 154 162 #[51, 69, 147, 147, 87, 99, 111, 123, 135], 51) := by decide +kernel
theorem d_Ma_holds_52 : decode b_Ma_holds 52 = .ok (.lload_n 1, 1) := by decide +kernel
theorem d_Ma_holds_53 : decode b_Ma_holds 53 = .ok (.lconst 0, 1) := by decide +kernel
theorem d_Ma_holds_54 : decode b_Ma_holds 54 = .ok (.lcmp, 1) := by decide +kernel
theorem d_Ma_holds_55 : decode b_Ma_holds 55 = .ok (.ifCond .eq 13, 3) := by decide +kernel
theorem d_Ma_holds_58 : decode b_Ma_holds 58 = .ok (.lload_n 3, 1) := by decide +kernel
theorem d_Ma_holds_59 : decode b_Ma_holds 59 = .ok (.lconst 0, 1) := by decide +kernel
theorem d_Ma_holds_60 : decode b_Ma_holds 60 = .ok (.lcmp, 1) := by decide +kernel
theorem d_Ma_holds_61 : decode b_Ma_holds 61 = .ok (.ifCond .eq 7, 3) := by decide +kernel
theorem d_Ma_holds_64 : decode b_Ma_holds 64 = .ok (.iconst 1, 1) := by decide +kernel
theorem d_Ma_holds_65 : decode b_Ma_holds 65 = .ok (.goto 4, 3) := by decide +kernel
theorem d_Ma_holds_68 : decode b_Ma_holds 68 = .ok (.iconst 0, 1) := by decide +kernel
theorem d_Ma_holds_69 : decode b_Ma_holds 69 = .ok (.ireturn, 1) := by decide +kernel
theorem d_Ma_holds_70 : decode b_Ma_holds 70 = .ok (.lload_n 1, 1) := by decide +kernel
theorem d_Ma_holds_71 : decode b_Ma_holds 71 = .ok (.lconst 0, 1) := by decide +kernel
theorem d_Ma_holds_72 : decode b_Ma_holds 72 = .ok (.lcmp, 1) := by decide +kernel
theorem d_Ma_holds_73 : decode b_Ma_holds 73 = .ok (.ifCond .ne 9, 3) := by decide +kernel
theorem d_Ma_holds_76 : decode b_Ma_holds 76 = .ok (.lload_n 3, 1) := by decide +kernel
theorem d_Ma_holds_77 : decode b_Ma_holds 77 = .ok (.lconst 0, 1) := by decide +kernel
theorem d_Ma_holds_78 : decode b_Ma_holds 78 = .ok (.lcmp, 1) := by decide +kernel
theorem d_Ma_holds_79 : decode b_Ma_holds 79 = .ok (.ifCond .eq 7, 3) := by decide +kernel
theorem d_Ma_holds_82 : decode b_Ma_holds 82 = .ok (.iconst 1, 1) := by decide +kernel
theorem d_Ma_holds_83 : decode b_Ma_holds 83 = .ok (.goto 4, 3) := by decide +kernel
theorem d_Ma_holds_86 : decode b_Ma_holds 86 = .ok (.iconst 0, 1) := by decide +kernel
theorem d_Ma_holds_87 : decode b_Ma_holds 87 = .ok (.ireturn, 1) := by decide +kernel
theorem d_Ma_holds_88 : decode b_Ma_holds 88 = .ok (.lload_n 1, 1) := by decide +kernel
theorem d_Ma_holds_89 : decode b_Ma_holds 89 = .ok (.lload_n 3, 1) := by decide +kernel
theorem d_Ma_holds_90 : decode b_Ma_holds 90 = .ok (.lcmp, 1) := by decide +kernel
theorem d_Ma_holds_91 : decode b_Ma_holds 91 = .ok (.ifCond .eq 7, 3) := by decide +kernel
theorem d_Ma_holds_94 : decode b_Ma_holds 94 = .ok (.iconst 1, 1) := by decide +kernel
theorem d_Ma_holds_95 : decode b_Ma_holds 95 = .ok (.goto 4, 3) := by decide +kernel
theorem d_Ma_holds_98 : decode b_Ma_holds 98 = .ok (.iconst 0, 1) := by decide +kernel
theorem d_Ma_holds_99 : decode b_Ma_holds 99 = .ok (.ireturn, 1) := by decide +kernel
theorem d_Ma_holds_100 : decode b_Ma_holds 100 = .ok (.lload_n 1, 1) := by decide +kernel
theorem d_Ma_holds_101 : decode b_Ma_holds 101 = .ok (.lload_n 3, 1) := by decide +kernel
theorem d_Ma_holds_102 : decode b_Ma_holds 102 = .ok (.lcmp, 1) := by decide +kernel
theorem d_Ma_holds_103 : decode b_Ma_holds 103 = .ok (.ifCond .ge 7, 3) := by decide +kernel
theorem d_Ma_holds_106 : decode b_Ma_holds 106 = .ok (.iconst 1, 1) := by decide +kernel
theorem d_Ma_holds_107 : decode b_Ma_holds 107 = .ok (.goto 4, 3) := by decide +kernel
theorem d_Ma_holds_110 : decode b_Ma_holds 110 = .ok (.iconst 0, 1) := by decide +kernel
theorem d_Ma_holds_111 : decode b_Ma_holds 111 = .ok (.ireturn, 1) := by decide +kernel
theorem d_Ma_holds_112 : decode b_Ma_holds 112 = .ok (.lload_n 1, 1) := by decide +kernel
theorem d_Ma_holds_113 : decode b_Ma_holds 113 = .ok (.lload_n 3, 1) := by decide +kernel
theorem d_Ma_holds_114 : decode b_Ma_holds 114 = .ok (.lcmp, 1) := by decide +kernel
theorem d_Ma_holds_115 : decode b_Ma_holds 115 = .ok (.ifCond .le 7, 3) := by decide +kernel
theorem d_Ma_holds_118 : decode b_Ma_holds 118 = .ok (.iconst 1, 1) := by decide +kernel
theorem d_Ma_holds_119 : decode b_Ma_holds 119 = .ok (.goto 4, 3) := by decide +kernel
theorem d_Ma_holds_122 : decode b_Ma_holds 122 = .ok (.iconst 0, 1) := by decide +kernel
theorem d_Ma_holds_123 : decode b_Ma_holds 123 = .ok (.ireturn, 1) := by decide +kernel
theorem d_Ma_holds_124 : decode b_Ma_holds 124 = .ok (.lload_n 1, 1) := by decide +kernel
theorem d_Ma_holds_125 : decode b_Ma_holds 125 = .ok (.lload_n 3, 1) := by decide +kernel
theorem d_Ma_holds_126 : decode b_Ma_holds 126 = .ok (.lcmp, 1) := by decide +kernel
theorem d_Ma_holds_127 : decode b_Ma_holds 127 = .ok (.ifCond .gt 7, 3) := by decide +kernel
theorem d_Ma_holds_130 : decode b_Ma_holds 130 = .ok (.iconst 1, 1) := by decide +kernel
theorem d_Ma_holds_131 : decode b_Ma_holds 131 = .ok (.goto 4, 3) := by decide +kernel
theorem d_Ma_holds_134 : decode b_Ma_holds 134 = .ok (.iconst 0, 1) := by decide +kernel
theorem d_Ma_holds_135 : decode b_Ma_holds 135 = .ok (.ireturn, 1) := by decide +kernel
theorem d_Ma_holds_136 : decode b_Ma_holds 136 = .ok (.lload_n 1, 1) := by decide +kernel
theorem d_Ma_holds_137 : decode b_Ma_holds 137 = .ok (.lload_n 3, 1) := by decide +kernel
theorem d_Ma_holds_138 : decode b_Ma_holds 138 = .ok (.lcmp, 1) := by decide +kernel
theorem d_Ma_holds_139 : decode b_Ma_holds 139 = .ok (.ifCond .lt 7, 3) := by decide +kernel
theorem d_Ma_holds_142 : decode b_Ma_holds 142 = .ok (.iconst 1, 1) := by decide +kernel
theorem d_Ma_holds_143 : decode b_Ma_holds 143 = .ok (.goto 4, 3) := by decide +kernel
theorem d_Ma_holds_146 : decode b_Ma_holds 146 = .ok (.iconst 0, 1) := by decide +kernel
theorem d_Ma_holds_147 : decode b_Ma_holds 147 = .ok (.ireturn, 1) := by decide +kernel
theorem d_Ma_holds_148 : decode b_Ma_holds 148 = .ok (.lload_n 1, 1) := by decide +kernel
theorem d_Ma_holds_149 : decode b_Ma_holds 149 = .ok (.lload_n 3, 1) := by decide +kernel
theorem d_Ma_holds_150 : decode b_Ma_holds 150 = .ok (.lcmp, 1) := by decide +kernel
theorem d_Ma_holds_151 : decode b_Ma_holds 151 = .ok (.ifCond .ne 7, 3) := by decide +kernel
theorem d_Ma_holds_154 : decode b_Ma_holds 154 = .ok (.iconst 1, 1) := by decide +kernel
theorem d_Ma_holds_155 : decode b_Ma_holds 155 = .ok (.goto 4, 3) := by decide +kernel
theorem d_Ma_holds_158 : decode b_Ma_holds 158 = .ok (.iconst 0, 1) := by decide +kernel
theorem d_Ma_holds_159 : decode b_Ma_holds 159 = .ok (.ireturn, 1) := by decide +kernel
abbrev rm_Ma_holds : Room := { frames := 0, cells := 0, slots := 0, locals := 0 }
abbrev q_Ma_holds (D : va_G) (cy : Nat → ClassId) (A : Nat → Prop) (res : Int32) : Array Value → State → Outcome → State → Prop := va_Qi (fun r' (_ : Unit) => r' = res) (fun _ t => Po D cy A [] t) A
def I_Ma_holds_82 (p : Program) (l : Launch) (e : Env) (s : State) (m : MethodId) (args : Array Value) (below : List Frame) (meth : Method) (c : Code) (D : va_G) (cy : Nat → ClassId) (A : Nat → Prop) (ad : Nat → Nat) (k : Option (Int32)) : Prop :=
  ∀ (res : Int32), k  = some res → ∀ (H : Heap) (locs : List Loc) (ls : Array Slot), va_P D classes [] H → va_D A [] → va_S A s.heap H locs → lv_has ls 5 [] → W p l e rm_Ma_holds s m args below meth c H locs 0 0 (MQ below (q_Ma_holds D cy A res) args s 0 0 A) (F0 m 82 ls [])
def I_Ma_holds_148 (p : Program) (l : Launch) (e : Env) (s : State) (m : MethodId) (args : Array Value) (below : List Frame) (meth : Method) (c : Code) (D : va_G) (cy : Nat → ClassId) (A : Nat → Prop) (ad : Nat → Nat) (k : Int64 → Int64 → Option (Int32)) : Prop :=
  ∀ (x1 : Int64) (x3 : Int64) (res : Int32), k x1 x3 = some res → ∀ (H : Heap) (locs : List Loc) (ls : Array Slot), va_P D classes [] H → va_D A [] → va_S A s.heap H locs → lv_has ls 5 [(1, .long x1), (3, .long x3)] → W p l e rm_Ma_holds s m args below meth c H locs 0 0 (MQ below (q_Ma_holds D cy A res) args s 0 0 A) (F0 m 148 ls [])
def I_Ma_holds_e (p : Program) (l : Launch) (e : Env) (s : State) (m : MethodId) (args : Array Value) (below : List Frame) (meth : Method) (c : Code) (D : va_G) (cy : Nat → ClassId) (A : Nat → Prop) (ad : Nat → Nat) (k : Int32 → Int64 → Int64 → Option (Int32)) : Prop :=
  ∀ (a0 : Int32) (a1 : Int64) (a2 : Int64) (res : Int32), k a0 a1 a2 = some res → ∀ (H : Heap) (locs : List Loc) (ls : Array Slot), va_P D classes [] H → va_D A [] → va_S A s.heap H locs → lv_has ls 5 [(0, .int a0), (1, .long a1), (3, .long a2)] → W p l e rm_Ma_holds s m args below meth c H locs 0 0 (MQ below (q_Ma_holds D cy A res) args s 0 0 A) (F0 m 0 ls [])
set_option maxHeartbeats 8000000 in
set_option maxRecDepth 100000 in
theorem wb_Ma_holds_82 {p : Program} {l : Launch} {e : Env} {s : State} {m : MethodId} {args : Array Value} {below : List Frame} {meth : Method} {c : Code} {D : va_G} {cy : Nat → ClassId} {A : Nat → Prop} {ad : Nat → Nat} {fu : Nat} (F : Fx p s m args meth c b_Ma_holds 5 "CoinKeeper$Machine" "holds" (some .boolean) D cy ad A) : I_Ma_holds_82 p l e s m args below meth c D cy A ad (xb_Ma_holds_82 fu) := by
  obtain ⟨hx, hb, hr, hml, hown, hts, hlocks, hK, hA, hSt, hnm, hex⟩ := id F
  intro  res hf H locs ls hP hD hS hl
  unfold xb_Ma_holds_82 at hf
  refine lv_iconst (v := 1) hx hb d_Ma_holds_82 (by decide) ?_
  refine lv_goto (tgt := 87) hx hb d_Ma_holds_83 (by decide) ?_
  obtain rfl := Option.some.inj hf
  exact q_rz hx hb hr hlocks hK hP hD hS (isb_n (v := 1) (by decide)) d_Ma_holds_87
set_option maxHeartbeats 8000000 in
set_option maxRecDepth 100000 in
theorem wb_Ma_holds_148 {p : Program} {l : Launch} {e : Env} {s : State} {m : MethodId} {args : Array Value} {below : List Frame} {meth : Method} {c : Code} {D : va_G} {cy : Nat → ClassId} {A : Nat → Prop} {ad : Nat → Nat} {fu : Nat} (F : Fx p s m args meth c b_Ma_holds 5 "CoinKeeper$Machine" "holds" (some .boolean) D cy ad A) : I_Ma_holds_148 p l e s m args below meth c D cy A ad (xb_Ma_holds_148 fu) := by
  obtain ⟨hx, hb, hr, hml, hown, hts, hlocks, hK, hA, hSt, hnm, hex⟩ := id F
  intro x1 x3 res hf H locs ls hP hD hS hl
  unfold xb_Ma_holds_148 at hf
  refine lv_lload_n hx hb d_Ma_holds_148 rfl (lv_at hl 0 rfl) ?_
  refine lv_lload_n hx hb d_Ma_holds_149 rfl (lv_at hl 1 rfl) ?_
  refine W.lcmp hx hb d_Ma_holds_150 ?_
  refine lv_if_ne (tgt := 158) hx hb d_Ma_holds_151 (by decide) (fun cx => ?_) (fun cx => ?_)
  · have hf := ifn cx hf
    refine lv_iconst (v := 0) hx hb d_Ma_holds_158 (by decide) ?_
    obtain rfl := Option.some.inj hf
    exact q_rz hx hb hr hlocks hK hP hD hS (isb_n (v := 0) (by decide)) d_Ma_holds_159
  · have hf := ifp cx hf
    refine lv_iconst (v := 1) hx hb d_Ma_holds_154 (by decide) ?_
    refine lv_goto (tgt := 159) hx hb d_Ma_holds_155 (by decide) ?_
    obtain rfl := Option.some.inj hf
    exact q_rz hx hb hr hlocks hK hP hD hS (isb_n (v := 1) (by decide)) d_Ma_holds_159
set_option maxHeartbeats 8000000 in
set_option maxRecDepth 100000 in
theorem we_Ma_holds {p : Program} {l : Launch} {e : Env} {s : State} {m : MethodId} {args : Array Value} {below : List Frame} {meth : Method} {c : Code} {D : va_G} {cy : Nat → ClassId} {A : Nat → Prop} {ad : Nat → Nat} {fu : Nat} (F : Fx p s m args meth c b_Ma_holds 5 "CoinKeeper$Machine" "holds" (some .boolean) D cy ad A) : I_Ma_holds_e p l e s m args below meth c D cy A ad (x_Ma_holds fu) := by
  obtain ⟨hx, hb, hr, hml, hown, hts, hlocks, hK, hA, hSt, hnm, hex⟩ := id F
  intro a0 a1 a2 res hf H locs ls hP hD hS hl
  unfold x_Ma_holds at hf
  refine lv_iload_n hx hb d_Ma_holds_0 rfl (lv_at hl 0 rfl) ?_
  by_cases cx : a0 = 154
  · have hf := ifp cx hf
    refine lv_tableIn (tgt := 52) (off := 51) hx hb d_Ma_holds_1 (by rw [cx]; decide) (by rw [cx]; decide) (by rw [cx]; decide +kernel) (by decide) ?_
    refine lv_lload_n hx hb d_Ma_holds_52 rfl (lv_at hl 1 rfl) ?_
    refine lv_lconst (v := 0) hx hb d_Ma_holds_53 (by decide) ?_
    refine W.lcmp hx hb d_Ma_holds_54 ?_
    refine lv_if_eq (tgt := 68) hx hb d_Ma_holds_55 (by decide) (fun cx => ?_) (fun cx => ?_)
    · have hf := ifp cx hf
      refine lv_iconst (v := 0) hx hb d_Ma_holds_68 (by decide) ?_
      obtain rfl := Option.some.inj hf
      exact q_rz hx hb hr hlocks hK hP hD hS (isb_n (v := 0) (by decide)) d_Ma_holds_69
    · have hf := ifn cx hf
      refine lv_lload_n hx hb d_Ma_holds_58 rfl (lv_at hl 2 rfl) ?_
      refine lv_lconst (v := 0) hx hb d_Ma_holds_59 (by decide) ?_
      refine W.lcmp hx hb d_Ma_holds_60 ?_
      refine lv_if_eq (tgt := 68) hx hb d_Ma_holds_61 (by decide) (fun cx => ?_) (fun cx => ?_)
      · have hf := ifp cx hf
        refine lv_iconst (v := 0) hx hb d_Ma_holds_68 (by decide) ?_
        obtain rfl := Option.some.inj hf
        exact q_rz hx hb hr hlocks hK hP hD hS (isb_n (v := 0) (by decide)) d_Ma_holds_69
      · have hf := ifn cx hf
        refine lv_iconst (v := 1) hx hb d_Ma_holds_64 (by decide) ?_
        refine lv_goto (tgt := 69) hx hb d_Ma_holds_65 (by decide) ?_
        obtain rfl := Option.some.inj hf
        exact q_rz hx hb hr hlocks hK hP hD hS (isb_n (v := 1) (by decide)) d_Ma_holds_69
  · have hf := ifn cx hf
    have cn_0 := lv_neT (a := 154) cx (by decide)
    clear cx
    by_cases cx : a0 = 155
    · have hf := ifp cx hf
      refine lv_tableIn (tgt := 70) (off := 69) hx hb d_Ma_holds_1 (by rw [cx]; decide) (by rw [cx]; decide) (by rw [cx]; decide +kernel) (by decide) ?_
      refine lv_lload_n hx hb d_Ma_holds_70 rfl (lv_at hl 1 rfl) ?_
      refine lv_lconst (v := 0) hx hb d_Ma_holds_71 (by decide) ?_
      refine W.lcmp hx hb d_Ma_holds_72 ?_
      refine lv_if_ne (tgt := 82) hx hb d_Ma_holds_73 (by decide) (fun cx => ?_) (fun cx => ?_)
      · have hf := ifn cx hf
        exact wb_Ma_holds_82 (fu := fu) F _ hf _ _ _ hP hD hS (lv_sub hl [] rfl)
      · have hf := ifp cx hf
        refine lv_lload_n hx hb d_Ma_holds_76 rfl (lv_at hl 2 rfl) ?_
        refine lv_lconst (v := 0) hx hb d_Ma_holds_77 (by decide) ?_
        refine W.lcmp hx hb d_Ma_holds_78 ?_
        refine lv_if_eq (tgt := 86) hx hb d_Ma_holds_79 (by decide) (fun cx => ?_) (fun cx => ?_)
        · have hf := ifp cx hf
          refine lv_iconst (v := 0) hx hb d_Ma_holds_86 (by decide) ?_
          obtain rfl := Option.some.inj hf
          exact q_rz hx hb hr hlocks hK hP hD hS (isb_n (v := 0) (by decide)) d_Ma_holds_87
        · have hf := ifn cx hf
          exact wb_Ma_holds_82 (fu := fu) F _ hf _ _ _ hP hD hS (lv_sub hl [] rfl)
    · have hf := ifn cx hf
      have cn_1 := lv_neT (a := 155) cx (by decide)
      clear cx
      by_cases cx : a0 = 156
      · have hf := ifp cx hf
        refine lv_tableIn (tgt := 148) (off := 147) hx hb d_Ma_holds_1 (by rw [cx]; decide) (by rw [cx]; decide) (by rw [cx]; decide +kernel) (by decide) ?_
        exact wb_Ma_holds_148 (fu := fu) F _ _ _ hf _ _ _ hP hD hS (lv_sub hl [1, 2] rfl)
      · have hf := ifn cx hf
        have cn_2 := lv_neT (a := 156) cx (by decide)
        clear cx
        by_cases cx : a0 = 157
        · have hf := ifp cx hf
          refine lv_tableIn (tgt := 148) (off := 147) hx hb d_Ma_holds_1 (by rw [cx]; decide) (by rw [cx]; decide) (by rw [cx]; decide +kernel) (by decide) ?_
          exact wb_Ma_holds_148 (fu := fu) F _ _ _ hf _ _ _ hP hD hS (lv_sub hl [1, 2] rfl)
        · have hf := ifn cx hf
          have cn_3 := lv_neT (a := 157) cx (by decide)
          clear cx
          by_cases cx : a0 = 158
          · have hf := ifp cx hf
            refine lv_tableIn (tgt := 88) (off := 87) hx hb d_Ma_holds_1 (by rw [cx]; decide) (by rw [cx]; decide) (by rw [cx]; decide +kernel) (by decide) ?_
            refine lv_lload_n hx hb d_Ma_holds_88 rfl (lv_at hl 1 rfl) ?_
            refine lv_lload_n hx hb d_Ma_holds_89 rfl (lv_at hl 2 rfl) ?_
            refine W.lcmp hx hb d_Ma_holds_90 ?_
            refine lv_if_eq (tgt := 98) hx hb d_Ma_holds_91 (by decide) (fun cx => ?_) (fun cx => ?_)
            · have hf := ifp cx hf
              refine lv_iconst (v := 0) hx hb d_Ma_holds_98 (by decide) ?_
              obtain rfl := Option.some.inj hf
              exact q_rz hx hb hr hlocks hK hP hD hS (isb_n (v := 0) (by decide)) d_Ma_holds_99
            · have hf := ifn cx hf
              refine lv_iconst (v := 1) hx hb d_Ma_holds_94 (by decide) ?_
              refine lv_goto (tgt := 99) hx hb d_Ma_holds_95 (by decide) ?_
              obtain rfl := Option.some.inj hf
              exact q_rz hx hb hr hlocks hK hP hD hS (isb_n (v := 1) (by decide)) d_Ma_holds_99
          · have hf := ifn cx hf
            have cn_4 := lv_neT (a := 158) cx (by decide)
            clear cx
            by_cases cx : a0 = 159
            · have hf := ifp cx hf
              refine lv_tableIn (tgt := 100) (off := 99) hx hb d_Ma_holds_1 (by rw [cx]; decide) (by rw [cx]; decide) (by rw [cx]; decide +kernel) (by decide) ?_
              refine lv_lload_n hx hb d_Ma_holds_100 rfl (lv_at hl 1 rfl) ?_
              refine lv_lload_n hx hb d_Ma_holds_101 rfl (lv_at hl 2 rfl) ?_
              refine W.lcmp hx hb d_Ma_holds_102 ?_
              refine lv_if_ge (tgt := 110) hx hb d_Ma_holds_103 (by decide) (fun cx => ?_) (fun cx => ?_)
              · have hf := ifp cx hf
                refine lv_iconst (v := 0) hx hb d_Ma_holds_110 (by decide) ?_
                obtain rfl := Option.some.inj hf
                exact q_rz hx hb hr hlocks hK hP hD hS (isb_n (v := 0) (by decide)) d_Ma_holds_111
              · have hf := ifn cx hf
                refine lv_iconst (v := 1) hx hb d_Ma_holds_106 (by decide) ?_
                refine lv_goto (tgt := 111) hx hb d_Ma_holds_107 (by decide) ?_
                obtain rfl := Option.some.inj hf
                exact q_rz hx hb hr hlocks hK hP hD hS (isb_n (v := 1) (by decide)) d_Ma_holds_111
            · have hf := ifn cx hf
              have cn_5 := lv_neT (a := 159) cx (by decide)
              clear cx
              by_cases cx : a0 = 160
              · have hf := ifp cx hf
                refine lv_tableIn (tgt := 112) (off := 111) hx hb d_Ma_holds_1 (by rw [cx]; decide) (by rw [cx]; decide) (by rw [cx]; decide +kernel) (by decide) ?_
                refine lv_lload_n hx hb d_Ma_holds_112 rfl (lv_at hl 1 rfl) ?_
                refine lv_lload_n hx hb d_Ma_holds_113 rfl (lv_at hl 2 rfl) ?_
                refine W.lcmp hx hb d_Ma_holds_114 ?_
                refine lv_if_le (tgt := 122) hx hb d_Ma_holds_115 (by decide) (fun cx => ?_) (fun cx => ?_)
                · have hf := ifp cx hf
                  refine lv_iconst (v := 0) hx hb d_Ma_holds_122 (by decide) ?_
                  obtain rfl := Option.some.inj hf
                  exact q_rz hx hb hr hlocks hK hP hD hS (isb_n (v := 0) (by decide)) d_Ma_holds_123
                · have hf := ifn cx hf
                  refine lv_iconst (v := 1) hx hb d_Ma_holds_118 (by decide) ?_
                  refine lv_goto (tgt := 123) hx hb d_Ma_holds_119 (by decide) ?_
                  obtain rfl := Option.some.inj hf
                  exact q_rz hx hb hr hlocks hK hP hD hS (isb_n (v := 1) (by decide)) d_Ma_holds_123
              · have hf := ifn cx hf
                have cn_6 := lv_neT (a := 160) cx (by decide)
                clear cx
                by_cases cx : a0 = 161
                · have hf := ifp cx hf
                  refine lv_tableIn (tgt := 124) (off := 123) hx hb d_Ma_holds_1 (by rw [cx]; decide) (by rw [cx]; decide) (by rw [cx]; decide +kernel) (by decide) ?_
                  refine lv_lload_n hx hb d_Ma_holds_124 rfl (lv_at hl 1 rfl) ?_
                  refine lv_lload_n hx hb d_Ma_holds_125 rfl (lv_at hl 2 rfl) ?_
                  refine W.lcmp hx hb d_Ma_holds_126 ?_
                  refine lv_if_gt (tgt := 134) hx hb d_Ma_holds_127 (by decide) (fun cx => ?_) (fun cx => ?_)
                  · have hf := ifp cx hf
                    refine lv_iconst (v := 0) hx hb d_Ma_holds_134 (by decide) ?_
                    obtain rfl := Option.some.inj hf
                    exact q_rz hx hb hr hlocks hK hP hD hS (isb_n (v := 0) (by decide)) d_Ma_holds_135
                  · have hf := ifn cx hf
                    refine lv_iconst (v := 1) hx hb d_Ma_holds_130 (by decide) ?_
                    refine lv_goto (tgt := 135) hx hb d_Ma_holds_131 (by decide) ?_
                    obtain rfl := Option.some.inj hf
                    exact q_rz hx hb hr hlocks hK hP hD hS (isb_n (v := 1) (by decide)) d_Ma_holds_135
                · have hf := ifn cx hf
                  have cn_7 := lv_neT (a := 161) cx (by decide)
                  clear cx
                  by_cases cx : a0 = 162
                  · have hf := ifp cx hf
                    refine lv_tableIn (tgt := 136) (off := 135) hx hb d_Ma_holds_1 (by rw [cx]; decide) (by rw [cx]; decide) (by rw [cx]; decide +kernel) (by decide) ?_
                    refine lv_lload_n hx hb d_Ma_holds_136 rfl (lv_at hl 1 rfl) ?_
                    refine lv_lload_n hx hb d_Ma_holds_137 rfl (lv_at hl 2 rfl) ?_
                    refine W.lcmp hx hb d_Ma_holds_138 ?_
                    refine lv_if_lt (tgt := 146) hx hb d_Ma_holds_139 (by decide) (fun cx => ?_) (fun cx => ?_)
                    · have hf := ifp cx hf
                      refine lv_iconst (v := 0) hx hb d_Ma_holds_146 (by decide) ?_
                      obtain rfl := Option.some.inj hf
                      exact q_rz hx hb hr hlocks hK hP hD hS (isb_n (v := 0) (by decide)) d_Ma_holds_147
                    · have hf := ifn cx hf
                      refine lv_iconst (v := 1) hx hb d_Ma_holds_142 (by decide) ?_
                      refine lv_goto (tgt := 147) hx hb d_Ma_holds_143 (by decide) ?_
                      obtain rfl := Option.some.inj hf
                      exact q_rz hx hb hr hlocks hK hP hD hS (isb_n (v := 1) (by decide)) d_Ma_holds_147
                  · have hf := ifn cx hf
                    have cn_8 := lv_neT (a := 162) cx (by decide)
                    clear cx
                    refine lv_tableOut (tgt := 148) hx hb d_Ma_holds_1 (by omega) (by decide) ?_
                    clear cn_0 cn_1 cn_2 cn_3 cn_4 cn_5 cn_6 cn_7 cn_8
                    exact wb_Ma_holds_148 (fu := fu) F _ _ _ hf _ _ _ hP hD hS (lv_sub hl [1, 2] rfl)
theorem c_Ma_holds (l : Launch) (D : va_G) (cy : Nat → ClassId) (ad : Nat → Nat) (fu : Nat) (a0 : Int32) (a1 : Int64) (a2 : Int64) (res : Int32) (hf : x_Ma_holds fu a0 a1 a2 = some res) (sz : Nat) : Met l ({ cls := "CoinKeeper$Machine", name := "holds", desc := "(IJJ)Z" } : Jvm.MethodName) (.code ({ cls := "CoinKeeper$Machine", name := "holds", desc := "(IJJ)Z" } : Jvm.MethodName) b_Ma_holds 5 (some .boolean) :: gw) rm_Ma_holds (va_Pc [.int a0, .long a1, .long a2] (Pr D cy ad [] sz)) (q_Ma_holds D cy (va_A [] sz) res) 0 0 (va_A [] sz) :=
  q_met (Qc := fun A => q_Ma_holds D cy A res) (by decide) rfl rfl (Nat.le_of_ble_eq_true rfl) (fun p e s m below meth c ls F hP hD hS hl => we_Ma_holds (fu := fu) F a0 a1 a2 res hf _ _ _ hP hD hS hl) sz
abbrev b_Ma_verifyTop : ByteArray := prog_7_method_17_code
theorem d_Ma_verifyTop_0 : decode b_Ma_verifyTop 0 = .ok (.aload_n 0, 1) := by decide +kernel
theorem d_Ma_verifyTop_1 : decode b_Ma_verifyTop 1 = .ok (.getfield 73, 3) := by decide +kernel
theorem d_Ma_verifyTop_4 : decode b_Ma_verifyTop 4 = .ok (.iconst 1, 1) := by decide +kernel
theorem d_Ma_verifyTop_5 : decode b_Ma_verifyTop 5 = .ok (.if_icmp .lt 21, 3) := by decide +kernel
theorem d_Ma_verifyTop_8 : decode b_Ma_verifyTop 8 = .ok (.aload_n 0, 1) := by decide +kernel
theorem d_Ma_verifyTop_9 : decode b_Ma_verifyTop 9 = .ok (.aload_n 0, 1) := by decide +kernel
theorem d_Ma_verifyTop_10 : decode b_Ma_verifyTop 10 = .ok (.getfield 26, 3) := by decide +kernel
theorem d_Ma_verifyTop_13 : decode b_Ma_verifyTop 13 = .ok (.aload_n 0, 1) := by decide +kernel
theorem d_Ma_verifyTop_14 : decode b_Ma_verifyTop 14 = .ok (.getfield 73, 3) := by decide +kernel
theorem d_Ma_verifyTop_17 : decode b_Ma_verifyTop 17 = .ok (.iconst 1, 1) := by decide +kernel
theorem d_Ma_verifyTop_18 : decode b_Ma_verifyTop 18 = .ok (.isub, 1) := by decide +kernel
theorem d_Ma_verifyTop_19 : decode b_Ma_verifyTop 19 = .ok (.iaload, 1) := by decide +kernel
theorem d_Ma_verifyTop_20 : decode b_Ma_verifyTop 20 = .ok (.invokevirtual 79, 3) := by decide +kernel
theorem d_Ma_verifyTop_23 : decode b_Ma_verifyTop 23 = .ok (.ifCond .ne 5, 3) := by decide +kernel
theorem d_Ma_verifyTop_26 : decode b_Ma_verifyTop 26 = .ok (.iconst 0, 1) := by decide +kernel
theorem d_Ma_verifyTop_27 : decode b_Ma_verifyTop 27 = .ok (.ireturn, 1) := by decide +kernel
theorem d_Ma_verifyTop_28 : decode b_Ma_verifyTop 28 = .ok (.aload_n 0, 1) := by decide +kernel
theorem d_Ma_verifyTop_29 : decode b_Ma_verifyTop 29 = .ok (.dup, 1) := by decide +kernel
theorem d_Ma_verifyTop_30 : decode b_Ma_verifyTop 30 = .ok (.getfield 73, 3) := by decide +kernel
theorem d_Ma_verifyTop_33 : decode b_Ma_verifyTop 33 = .ok (.iconst 1, 1) := by decide +kernel
theorem d_Ma_verifyTop_34 : decode b_Ma_verifyTop 34 = .ok (.isub, 1) := by decide +kernel
theorem d_Ma_verifyTop_35 : decode b_Ma_verifyTop 35 = .ok (.putfield 73, 3) := by decide +kernel
theorem d_Ma_verifyTop_38 : decode b_Ma_verifyTop 38 = .ok (.iconst 1, 1) := by decide +kernel
theorem d_Ma_verifyTop_39 : decode b_Ma_verifyTop 39 = .ok (.ireturn, 1) := by decide +kernel
abbrev rm_Ma_verifyTop : Room := { frames := 2, cells := 0, slots := 0, locals := 43 }
abbrev q_Ma_verifyTop (D : va_G) (cy : Nat → ClassId) (A : Nat → Prop) (o : Nat) (v_o_sha : Value) (r_signatures : Value) (v_o_ripemd : Value) (v_a_scriptEnd : Value) (v_a_other : Value) (v_a_taken : Value) (r_layout : Value) (r_coin : Value) (a_data : Nat) (a_main : Nat) (i_otherHeight : Int32) (i_ops : Int32) (i_ifs : Int32) (i_ifsNotTaken : Int32) (i_free : Int32) (i_tx : Int32) (i_in : Int32) (i_messageIsThere : Int32) (g_data : Nat → Int32) (g_main : Nat → Int32) (res : Int32 × Int32) : Array Value → State → Outcome → State → Prop := va_Qi (fun r' (_ : Unit) => r' = res.1) (fun _ t => Po D cy A [(o, .inr (6, [v_o_sha, r_signatures, v_o_ripemd, .ref a_data, v_a_scriptEnd, .ref a_main, v_a_other, v_a_taken, .int res.2, .int i_otherHeight, .int i_ops, .int i_ifs, .int i_ifsNotTaken, .int i_free, r_layout, .int i_tx, .int i_in, r_coin, .int i_messageIsThere])), (a_data, .inl (cy 0, 14928, .inl g_data)), (a_main, .inl (cy 1, 204, .inl g_main))] t) A
def I_Ma_verifyTop_e (p : Program) (l : Launch) (e : Env) (s : State) (m : MethodId) (args : Array Value) (below : List Frame) (meth : Method) (c : Code) (D : va_G) (cy : Nat → ClassId) (A : Nat → Prop) (ad : Nat → Nat) (o : Nat) (v_o_sha : Value) (r_signatures : Value) (v_o_ripemd : Value) (v_a_scriptEnd : Value) (v_a_other : Value) (v_a_taken : Value) (r_layout : Value) (r_coin : Value) (a_data : Nat) (a_main : Nat) (i_otherHeight : Int32) (i_ops : Int32) (i_ifs : Int32) (i_ifsNotTaken : Int32) (i_free : Int32) (i_tx : Int32) (i_in : Int32) (i_messageIsThere : Int32) (g_data : Nat → Int32) (g_main : Nat → Int32) (k : Int32 → Option (Int32 × Int32)) : Prop :=
  ∀ (u0 : Int32) (res : Int32 × Int32), k u0 = some res → ∀ (H : Heap) (locs : List Loc) (ls : Array Slot), va_P D classes [(o, .inr (6, [v_o_sha, r_signatures, v_o_ripemd, .ref a_data, v_a_scriptEnd, .ref a_main, v_a_other, v_a_taken, .int u0, .int i_otherHeight, .int i_ops, .int i_ifs, .int i_ifsNotTaken, .int i_free, r_layout, .int i_tx, .int i_in, r_coin, .int i_messageIsThere])), (a_data, .inl (cy 0, 14928, .inl g_data)), (a_main, .inl (cy 1, 204, .inl g_main))] H → va_D A [(o, .inr (6, [v_o_sha, r_signatures, v_o_ripemd, .ref a_data, v_a_scriptEnd, .ref a_main, v_a_other, v_a_taken, .int u0, .int i_otherHeight, .int i_ops, .int i_ifs, .int i_ifsNotTaken, .int i_free, r_layout, .int i_tx, .int i_in, r_coin, .int i_messageIsThere])), (a_data, .inl (cy 0, 14928, .inl g_data)), (a_main, .inl (cy 1, 204, .inl g_main))] → va_S A s.heap H locs → lv_has ls 1 [(0, .ref o)] → W p l e rm_Ma_verifyTop s m args below meth c H locs 0 0 (MQ below (q_Ma_verifyTop D cy A o v_o_sha r_signatures v_o_ripemd v_a_scriptEnd v_a_other v_a_taken r_layout r_coin a_data a_main i_otherHeight i_ops i_ifs i_ifsNotTaken i_free i_tx i_in i_messageIsThere g_data g_main res) args s 0 0 A) (F0 m 0 ls [])
set_option maxHeartbeats 8000000 in
set_option maxRecDepth 100000 in
theorem we_Ma_verifyTop {p : Program} {l : Launch} {e : Env} {s : State} {m : MethodId} {args : Array Value} {below : List Frame} {meth : Method} {c : Code} {D : va_G} {cy : Nat → ClassId} {A : Nat → Prop} {ad : Nat → Nat} {o : Nat} {v_o_sha : Value} {r_signatures : Value} {v_o_ripemd : Value} {v_a_scriptEnd : Value} {v_a_other : Value} {v_a_taken : Value} {r_layout : Value} {r_coin : Value} {a_data : Nat} {a_main : Nat} {i_otherHeight : Int32} {i_ops : Int32} {i_ifs : Int32} {i_ifsNotTaken : Int32} {i_free : Int32} {i_tx : Int32} {i_in : Int32} {i_messageIsThere : Int32} {g_data : Nat → Int32} {g_main : Nat → Int32} {fu : Nat} (F : Fx p s m args meth c b_Ma_verifyTop 1 "CoinKeeper$Machine" "verifyTop" (some .boolean) D cy ad A) : I_Ma_verifyTop_e p l e s m args below meth c D cy A ad o v_o_sha r_signatures v_o_ripemd v_a_scriptEnd v_a_other v_a_taken r_layout r_coin a_data a_main i_otherHeight i_ops i_ifs i_ifsNotTaken i_free i_tx i_in i_messageIsThere g_data g_main (x_Ma_verifyTop fu i_otherHeight i_ops i_ifs i_ifsNotTaken i_free i_tx i_in i_messageIsThere g_data g_main) := by
  obtain ⟨hx, hb, hr, hml, hown, hts, hlocks, hK, hA, hSt, hnm, hex⟩ := id F
  intro u0 res hf H locs ls hP hD hS hl
  unfold x_Ma_verifyTop at hf
  refine lv_aload_n hx hb d_Ma_verifyTop_0 rfl (lv_at hl 0 rfl) ?_
  refine va_get (D := D) (ci := 6) (v := .int u0) (C := "CoinKeeper$Machine") (T := F_6) (N := 19) hx hb hts i_6 hown hK hP 0 rfl rfl 8 (by decide) (hts _ gw_212) (fun _ h9 => h9) rfl d_Ma_verifyTop_1 ?_
  refine lv_iconst (v := 1) hx hb d_Ma_verifyTop_4 (by decide) ?_
  refine lv_icmp_lt (tgt := 26) hx hb d_Ma_verifyTop_5 (by decide) (fun cx => ?_) (fun cx => ?_)
  · have hf := ifp cx hf
    refine lv_iconst (v := 0) hx hb d_Ma_verifyTop_26 (by decide) ?_
    obtain rfl := Option.some.inj hf
    exact q_rz hx hb hr hlocks hK hP hD hS (isb_n (v := 0) (by decide)) d_Ma_verifyTop_27
  · have hf := ifn cx hf
    refine lv_aload_n hx hb d_Ma_verifyTop_8 rfl (lv_at hl 0 rfl) ?_
    refine lv_aload_n hx hb d_Ma_verifyTop_9 rfl (lv_at hl 0 rfl) ?_
    refine va_get (D := D) (ci := 6) (v := .ref a_main) (C := "CoinKeeper$Machine") (T := F_6) (N := 19) hx hb hts i_6 hown hK hP 0 rfl rfl 5 (by decide) (hts _ gw_209) (fun _ h9 => h9) rfl d_Ma_verifyTop_10 ?_
    refine lv_aload_n hx hb d_Ma_verifyTop_13 rfl (lv_at hl 0 rfl) ?_
    refine va_get (D := D) (ci := 6) (v := .int u0) (C := "CoinKeeper$Machine") (T := F_6) (N := 19) hx hb hts i_6 hown hK hP 0 rfl rfl 8 (by decide) (hts _ gw_212) (fun _ h9 => h9) rfl d_Ma_verifyTop_14 ?_
    refine lv_iconst (v := 1) hx hb d_Ma_verifyTop_17 (by decide) ?_
    refine lv_isub hx hb d_Ma_verifyTop_18 ?_
    refine lv_topi (fun v1 ev => ?_)
    have hf := bn ev hf
    clear ev
    obtain ⟨hg, hf⟩ := gdp hf
    refine va_iald hx hb hK hP 2 1 rfl rfl (inb_in hg) d_Ma_verifyTop_19 ?_
    refine lv_topi (fun v2 ev => ?_)
    have hf := bn ev hf
    clear ev
    obtain ⟨v3, hc, hf⟩ := bdp1 hf
    refine q_ai (wr := [(a_main, .inl (cy 1, 204, .inl g_main))]) (va_runV (C := "CoinKeeper$Machine") (As := [.int v2]) (rest := []) ⟨hx, hb, hml, hown, hts⟩ (c_Ma_isTrue l D cy ad fu o v_o_sha r_signatures v_o_ripemd v_a_scriptEnd (.ref a_main) v_a_other v_a_taken r_layout r_coin a_data u0 i_otherHeight i_ops i_ifs i_ifsNotTaken i_free i_tx i_in i_messageIsThere g_data v2 _ hc H.size) ⟨q_cB hts gw_996 gw_6 gw_993 hdc_41 ⟨by decide, by decide⟩, hts _ gw_995, hts _ gs_30⟩ (q_preV (q_pre (hP.sub [0, 1] rfl) (hD.sub [0, 1] (by decide) rfl) hK hSt hS (va_free hD hS hA [0, 1] rfl) _) (va_recv hK (hP.sub [0, 1] rfl) (ci := 6) (q0 := 0) rfl rfl)) rfl rfl hl.1 rfl (lv_room (Nat.le_of_ble_eq_true rfl)) d_Ma_verifyTop_20 ⟨Nat.le_of_ble_eq_true rfl, Nat.le_of_ble_eq_true rfl⟩) hP hD hS hA [0, 1] [2] rfl rfl (by decide) (by decide) (fun H locs hP hD hS => ?_)
    clear hc
    have hP : va_P D classes [(a_main, .inl (cy 1, 204, .inl g_main)), (o, .inr (6, [v_o_sha, r_signatures, v_o_ripemd, .ref a_data, v_a_scriptEnd, .ref a_main, v_a_other, v_a_taken, .int u0, .int i_otherHeight, .int i_ops, .int i_ifs, .int i_ifsNotTaken, .int i_free, r_layout, .int i_tx, .int i_in, r_coin, .int i_messageIsThere])), (a_data, .inl (cy 0, 14928, .inl g_data))] H := hP
    have hD : va_D A [(a_main, .inl (cy 1, 204, .inl g_main)), (o, .inr (6, [v_o_sha, r_signatures, v_o_ripemd, .ref a_data, v_a_scriptEnd, .ref a_main, v_a_other, v_a_taken, .int u0, .int i_otherHeight, .int i_ops, .int i_ifs, .int i_ifsNotTaken, .int i_free, r_layout, .int i_tx, .int i_in, r_coin, .int i_messageIsThere])), (a_data, .inl (cy 0, 14928, .inl g_data))] := hD
    refine lv_if_ne (tgt := 28) hx hb d_Ma_verifyTop_23 (by decide) (fun cx => ?_) (fun cx => ?_)
    · have hf := ifn cx hf
      refine lv_aload_n hx hb d_Ma_verifyTop_28 rfl (lv_at hl 0 rfl) ?_
      refine lv_dup hx hb d_Ma_verifyTop_29 rfl ?_
      refine va_get (D := D) (ci := 6) (v := .int u0) (C := "CoinKeeper$Machine") (T := F_6) (N := 19) hx hb hts i_6 hown hK hP 1 rfl rfl 8 (by decide) (hts _ gw_212) (fun _ h9 => h9) rfl d_Ma_verifyTop_30 ?_
      refine lv_iconst (v := 1) hx hb d_Ma_verifyTop_33 (by decide) ?_
      refine lv_isub hx hb d_Ma_verifyTop_34 ?_
      refine lv_topi (fun v4 ev => ?_)
      have hf := bn ev hf
      clear ev
      refine va_put (D := D) (ci := 6) (v := .int v4) (ty := .int) (C := "CoinKeeper$Machine") (T := F_6) (N := 19) hx hb hts i_6 t_6 t_6_ok n_6 hown hK hP hD hS 1 rfl rfl 8 (by decide) (hts _ gw_212) (fun _ h9 => h9) rfl (by decide +kernel) rfl rfl (Nat.le_of_ble_eq_true rfl) d_Ma_verifyTop_35 (fun H locs hP hD hS => ?_)
      have hP : va_P D classes [(a_main, .inl (cy 1, 204, .inl g_main)), (o, .inr (6, [v_o_sha, r_signatures, v_o_ripemd, .ref a_data, v_a_scriptEnd, .ref a_main, v_a_other, v_a_taken, .int v4, .int i_otherHeight, .int i_ops, .int i_ifs, .int i_ifsNotTaken, .int i_free, r_layout, .int i_tx, .int i_in, r_coin, .int i_messageIsThere])), (a_data, .inl (cy 0, 14928, .inl g_data))] H := hP
      have hD : va_D A [(a_main, .inl (cy 1, 204, .inl g_main)), (o, .inr (6, [v_o_sha, r_signatures, v_o_ripemd, .ref a_data, v_a_scriptEnd, .ref a_main, v_a_other, v_a_taken, .int v4, .int i_otherHeight, .int i_ops, .int i_ifs, .int i_ifsNotTaken, .int i_free, r_layout, .int i_tx, .int i_in, r_coin, .int i_messageIsThere])), (a_data, .inl (cy 0, 14928, .inl g_data))] := hD
      refine lv_iconst (v := 1) hx hb d_Ma_verifyTop_38 (by decide) ?_
      obtain rfl := Option.some.inj hf
      exact q_rz hx hb hr hlocks hK (hP.sub [1, 2, 0] rfl) (hD.sub [1, 2, 0] (by decide) rfl) hS (isb_n (v := 1) (by decide)) d_Ma_verifyTop_39
    · have hf := ifp cx hf
      refine lv_iconst (v := 0) hx hb d_Ma_verifyTop_26 (by decide) ?_
      obtain rfl := Option.some.inj hf
      exact q_rz hx hb hr hlocks hK (hP.sub [1, 2, 0] rfl) (hD.sub [1, 2, 0] (by decide) rfl) hS (isb_n (v := 0) (by decide)) d_Ma_verifyTop_27
theorem c_Ma_verifyTop (l : Launch) (D : va_G) (cy : Nat → ClassId) (ad : Nat → Nat) (fu : Nat) (o : Nat) (v_o_sha : Value) (r_signatures : Value) (v_o_ripemd : Value) (v_a_scriptEnd : Value) (v_a_other : Value) (v_a_taken : Value) (r_layout : Value) (r_coin : Value) (a_data : Nat) (a_main : Nat) (i_otherHeight : Int32) (i_ops : Int32) (i_ifs : Int32) (i_ifsNotTaken : Int32) (i_free : Int32) (i_tx : Int32) (i_in : Int32) (i_messageIsThere : Int32) (g_data : Nat → Int32) (g_main : Nat → Int32) (u0 : Int32) (res : Int32 × Int32) (hf : x_Ma_verifyTop fu i_otherHeight i_ops i_ifs i_ifsNotTaken i_free i_tx i_in i_messageIsThere g_data g_main u0 = some res) (sz : Nat) : Met l ({ cls := "CoinKeeper$Machine", name := "verifyTop", desc := "()Z" } : Jvm.MethodName) (.code ({ cls := "CoinKeeper$Machine", name := "verifyTop", desc := "()Z" } : Jvm.MethodName) b_Ma_verifyTop 1 (some .boolean) :: gw) rm_Ma_verifyTop (va_Pc [.ref o] (Pr D cy ad [(o, .inr (6, [v_o_sha, r_signatures, v_o_ripemd, .ref a_data, v_a_scriptEnd, .ref a_main, v_a_other, v_a_taken, .int u0, .int i_otherHeight, .int i_ops, .int i_ifs, .int i_ifsNotTaken, .int i_free, r_layout, .int i_tx, .int i_in, r_coin, .int i_messageIsThere])), (a_data, .inl (cy 0, 14928, .inl g_data)), (a_main, .inl (cy 1, 204, .inl g_main))] sz)) (q_Ma_verifyTop D cy (va_A [(o, .inr (6, [v_o_sha, r_signatures, v_o_ripemd, .ref a_data, v_a_scriptEnd, .ref a_main, v_a_other, v_a_taken, .int u0, .int i_otherHeight, .int i_ops, .int i_ifs, .int i_ifsNotTaken, .int i_free, r_layout, .int i_tx, .int i_in, r_coin, .int i_messageIsThere])), (a_data, .inl (cy 0, 14928, .inl g_data)), (a_main, .inl (cy 1, 204, .inl g_main))] sz) o v_o_sha r_signatures v_o_ripemd v_a_scriptEnd v_a_other v_a_taken r_layout r_coin a_data a_main i_otherHeight i_ops i_ifs i_ifsNotTaken i_free i_tx i_in i_messageIsThere g_data g_main res) 0 0 (va_A [(o, .inr (6, [v_o_sha, r_signatures, v_o_ripemd, .ref a_data, v_a_scriptEnd, .ref a_main, v_a_other, v_a_taken, .int u0, .int i_otherHeight, .int i_ops, .int i_ifs, .int i_ifsNotTaken, .int i_free, r_layout, .int i_tx, .int i_in, r_coin, .int i_messageIsThere])), (a_data, .inl (cy 0, 14928, .inl g_data)), (a_main, .inl (cy 1, 204, .inl g_main))] sz) :=
  q_met (Qc := fun A => q_Ma_verifyTop D cy A o v_o_sha r_signatures v_o_ripemd v_a_scriptEnd v_a_other v_a_taken r_layout r_coin a_data a_main i_otherHeight i_ops i_ifs i_ifsNotTaken i_free i_tx i_in i_messageIsThere g_data g_main res) (by decide) rfl rfl (Nat.le_of_ble_eq_true rfl) (fun p e s m below meth c ls F hP hD hS hl => we_Ma_verifyTop (fu := fu) F u0 res hf _ _ _ hP hD hS hl) sz
abbrev b_Ma_joinNumbers : ByteArray := prog_7_method_25_code
theorem d_Ma_joinNumbers_0 : decode b_Ma_joinNumbers 0 = .ok (.aload_n 0, 1) := by decide +kernel
theorem d_Ma_joinNumbers_1 : decode b_Ma_joinNumbers 1 = .ok (.getfield 73, 3) := by decide +kernel
theorem d_Ma_joinNumbers_4 : decode b_Ma_joinNumbers 4 = .ok (.iconst 2, 1) := by decide +kernel
theorem d_Ma_joinNumbers_5 : decode b_Ma_joinNumbers 5 = .ok (.if_icmp .lt 39, 3) := by decide +kernel
theorem d_Ma_joinNumbers_8 : decode b_Ma_joinNumbers 8 = .ok (.aload_n 0, 1) := by decide +kernel
theorem d_Ma_joinNumbers_9 : decode b_Ma_joinNumbers 9 = .ok (.aload_n 0, 1) := by decide +kernel
theorem d_Ma_joinNumbers_10 : decode b_Ma_joinNumbers 10 = .ok (.getfield 26, 3) := by decide +kernel
theorem d_Ma_joinNumbers_13 : decode b_Ma_joinNumbers 13 = .ok (.aload_n 0, 1) := by decide +kernel
theorem d_Ma_joinNumbers_14 : decode b_Ma_joinNumbers 14 = .ok (.getfield 73, 3) := by decide +kernel
theorem d_Ma_joinNumbers_17 : decode b_Ma_joinNumbers 17 = .ok (.iconst 2, 1) := by decide +kernel
theorem d_Ma_joinNumbers_18 : decode b_Ma_joinNumbers 18 = .ok (.isub, 1) := by decide +kernel
theorem d_Ma_joinNumbers_19 : decode b_Ma_joinNumbers 19 = .ok (.iaload, 1) := by decide +kernel
theorem d_Ma_joinNumbers_20 : decode b_Ma_joinNumbers 20 = .ok (.invokevirtual 167, 3) := by decide +kernel
theorem d_Ma_joinNumbers_23 : decode b_Ma_joinNumbers 23 = .ok (.ifCond .eq 21, 3) := by decide +kernel
theorem d_Ma_joinNumbers_26 : decode b_Ma_joinNumbers 26 = .ok (.aload_n 0, 1) := by decide +kernel
theorem d_Ma_joinNumbers_27 : decode b_Ma_joinNumbers 27 = .ok (.aload_n 0, 1) := by decide +kernel
theorem d_Ma_joinNumbers_28 : decode b_Ma_joinNumbers 28 = .ok (.getfield 26, 3) := by decide +kernel
theorem d_Ma_joinNumbers_31 : decode b_Ma_joinNumbers 31 = .ok (.aload_n 0, 1) := by decide +kernel
theorem d_Ma_joinNumbers_32 : decode b_Ma_joinNumbers 32 = .ok (.getfield 73, 3) := by decide +kernel
theorem d_Ma_joinNumbers_35 : decode b_Ma_joinNumbers 35 = .ok (.iconst 1, 1) := by decide +kernel
theorem d_Ma_joinNumbers_36 : decode b_Ma_joinNumbers 36 = .ok (.isub, 1) := by decide +kernel
theorem d_Ma_joinNumbers_37 : decode b_Ma_joinNumbers 37 = .ok (.iaload, 1) := by decide +kernel
theorem d_Ma_joinNumbers_38 : decode b_Ma_joinNumbers 38 = .ok (.invokevirtual 167, 3) := by decide +kernel
theorem d_Ma_joinNumbers_41 : decode b_Ma_joinNumbers 41 = .ok (.ifCond .ne 5, 3) := by decide +kernel
theorem d_Ma_joinNumbers_44 : decode b_Ma_joinNumbers 44 = .ok (.iconst 0, 1) := by decide +kernel
theorem d_Ma_joinNumbers_45 : decode b_Ma_joinNumbers 45 = .ok (.ireturn, 1) := by decide +kernel
theorem d_Ma_joinNumbers_46 : decode b_Ma_joinNumbers 46 = .ok (.aload_n 0, 1) := by decide +kernel
theorem d_Ma_joinNumbers_47 : decode b_Ma_joinNumbers 47 = .ok (.aload_n 0, 1) := by decide +kernel
theorem d_Ma_joinNumbers_48 : decode b_Ma_joinNumbers 48 = .ok (.getfield 26, 3) := by decide +kernel
theorem d_Ma_joinNumbers_51 : decode b_Ma_joinNumbers 51 = .ok (.aload_n 0, 1) := by decide +kernel
theorem d_Ma_joinNumbers_52 : decode b_Ma_joinNumbers 52 = .ok (.getfield 73, 3) := by decide +kernel
theorem d_Ma_joinNumbers_55 : decode b_Ma_joinNumbers 55 = .ok (.iconst 2, 1) := by decide +kernel
theorem d_Ma_joinNumbers_56 : decode b_Ma_joinNumbers 56 = .ok (.isub, 1) := by decide +kernel
theorem d_Ma_joinNumbers_57 : decode b_Ma_joinNumbers 57 = .ok (.iaload, 1) := by decide +kernel
theorem d_Ma_joinNumbers_58 : decode b_Ma_joinNumbers 58 = .ok (.invokevirtual 170, 3) := by decide +kernel
theorem d_Ma_joinNumbers_61 : decode b_Ma_joinNumbers 61 = .ok (.lstore_n 2, 1) := by decide +kernel
theorem d_Ma_joinNumbers_62 : decode b_Ma_joinNumbers 62 = .ok (.aload_n 0, 1) := by decide +kernel
theorem d_Ma_joinNumbers_63 : decode b_Ma_joinNumbers 63 = .ok (.aload_n 0, 1) := by decide +kernel
theorem d_Ma_joinNumbers_64 : decode b_Ma_joinNumbers 64 = .ok (.getfield 26, 3) := by decide +kernel
theorem d_Ma_joinNumbers_67 : decode b_Ma_joinNumbers 67 = .ok (.aload_n 0, 1) := by decide +kernel
theorem d_Ma_joinNumbers_68 : decode b_Ma_joinNumbers 68 = .ok (.getfield 73, 3) := by decide +kernel
theorem d_Ma_joinNumbers_71 : decode b_Ma_joinNumbers 71 = .ok (.iconst 1, 1) := by decide +kernel
theorem d_Ma_joinNumbers_72 : decode b_Ma_joinNumbers 72 = .ok (.isub, 1) := by decide +kernel
theorem d_Ma_joinNumbers_73 : decode b_Ma_joinNumbers 73 = .ok (.iaload, 1) := by decide +kernel
theorem d_Ma_joinNumbers_74 : decode b_Ma_joinNumbers 74 = .ok (.invokevirtual 170, 3) := by decide +kernel
theorem d_Ma_joinNumbers_77 : decode b_Ma_joinNumbers 77 = .ok (.lstore 4, 2) := by decide +kernel
theorem d_Ma_joinNumbers_79 : decode b_Ma_joinNumbers 79 = .ok (.aload_n 0, 1) := by decide +kernel
theorem d_Ma_joinNumbers_80 : decode b_Ma_joinNumbers 80 = .ok (.dup, 1) := by decide +kernel
theorem d_Ma_joinNumbers_81 : decode b_Ma_joinNumbers 81 = .ok (.getfield 73, 3) := by decide +kernel
theorem d_Ma_joinNumbers_84 : decode b_Ma_joinNumbers 84 = .ok (.iconst 2, 1) := by decide +kernel
theorem d_Ma_joinNumbers_85 : decode b_Ma_joinNumbers 85 = .ok (.isub, 1) := by decide +kernel
theorem d_Ma_joinNumbers_86 : decode b_Ma_joinNumbers 86 = .ok (.putfield 73, 3) := by decide +kernel
theorem d_Ma_joinNumbers_89 : decode b_Ma_joinNumbers 89 = .ok (.iload_n 1, 1) := by decide +kernel
theorem d_Ma_joinNumbers_90 : decode b_Ma_joinNumbers 90 = .ok (.lookupswitch 86 #[(147, 42), (148, 52), (163, 62), (164, 74)], 42) := by decide +kernel
theorem d_Ma_joinNumbers_132 : decode b_Ma_joinNumbers 132 = .ok (.aload_n 0, 1) := by decide +kernel
theorem d_Ma_joinNumbers_133 : decode b_Ma_joinNumbers 133 = .ok (.lload_n 2, 1) := by decide +kernel
theorem d_Ma_joinNumbers_134 : decode b_Ma_joinNumbers 134 = .ok (.lload 4, 2) := by decide +kernel
theorem d_Ma_joinNumbers_136 : decode b_Ma_joinNumbers 136 = .ok (.ladd, 1) := by decide +kernel
theorem d_Ma_joinNumbers_137 : decode b_Ma_joinNumbers 137 = .ok (.invokevirtual 160, 3) := by decide +kernel
theorem d_Ma_joinNumbers_140 : decode b_Ma_joinNumbers 140 = .ok (.iconst 1, 1) := by decide +kernel
theorem d_Ma_joinNumbers_141 : decode b_Ma_joinNumbers 141 = .ok (.ireturn, 1) := by decide +kernel
theorem d_Ma_joinNumbers_142 : decode b_Ma_joinNumbers 142 = .ok (.aload_n 0, 1) := by decide +kernel
theorem d_Ma_joinNumbers_143 : decode b_Ma_joinNumbers 143 = .ok (.lload_n 2, 1) := by decide +kernel
theorem d_Ma_joinNumbers_144 : decode b_Ma_joinNumbers 144 = .ok (.lload 4, 2) := by decide +kernel
theorem d_Ma_joinNumbers_146 : decode b_Ma_joinNumbers 146 = .ok (.lsub, 1) := by decide +kernel
theorem d_Ma_joinNumbers_147 : decode b_Ma_joinNumbers 147 = .ok (.invokevirtual 160, 3) := by decide +kernel
theorem d_Ma_joinNumbers_150 : decode b_Ma_joinNumbers 150 = .ok (.iconst 1, 1) := by decide +kernel
theorem d_Ma_joinNumbers_151 : decode b_Ma_joinNumbers 151 = .ok (.ireturn, 1) := by decide +kernel
theorem d_Ma_joinNumbers_152 : decode b_Ma_joinNumbers 152 = .ok (.aload_n 0, 1) := by decide +kernel
theorem d_Ma_joinNumbers_153 : decode b_Ma_joinNumbers 153 = .ok (.lload_n 2, 1) := by decide +kernel
theorem d_Ma_joinNumbers_154 : decode b_Ma_joinNumbers 154 = .ok (.lload 4, 2) := by decide +kernel
theorem d_Ma_joinNumbers_156 : decode b_Ma_joinNumbers 156 = .ok (.invokestatic 178, 3) := by decide +kernel
theorem d_Ma_joinNumbers_159 : decode b_Ma_joinNumbers 159 = .ok (.invokevirtual 160, 3) := by decide +kernel
theorem d_Ma_joinNumbers_162 : decode b_Ma_joinNumbers 162 = .ok (.iconst 1, 1) := by decide +kernel
theorem d_Ma_joinNumbers_163 : decode b_Ma_joinNumbers 163 = .ok (.ireturn, 1) := by decide +kernel
theorem d_Ma_joinNumbers_164 : decode b_Ma_joinNumbers 164 = .ok (.aload_n 0, 1) := by decide +kernel
theorem d_Ma_joinNumbers_165 : decode b_Ma_joinNumbers 165 = .ok (.lload_n 2, 1) := by decide +kernel
theorem d_Ma_joinNumbers_166 : decode b_Ma_joinNumbers 166 = .ok (.lload 4, 2) := by decide +kernel
theorem d_Ma_joinNumbers_168 : decode b_Ma_joinNumbers 168 = .ok (.invokestatic 182, 3) := by decide +kernel
theorem d_Ma_joinNumbers_171 : decode b_Ma_joinNumbers 171 = .ok (.invokevirtual 160, 3) := by decide +kernel
theorem d_Ma_joinNumbers_174 : decode b_Ma_joinNumbers 174 = .ok (.iconst 1, 1) := by decide +kernel
theorem d_Ma_joinNumbers_175 : decode b_Ma_joinNumbers 175 = .ok (.ireturn, 1) := by decide +kernel
theorem d_Ma_joinNumbers_176 : decode b_Ma_joinNumbers 176 = .ok (.iload_n 1, 1) := by decide +kernel
theorem d_Ma_joinNumbers_177 : decode b_Ma_joinNumbers 177 = .ok (.sipush 154, 3) := by decide +kernel
theorem d_Ma_joinNumbers_180 : decode b_Ma_joinNumbers 180 = .ok (.if_icmp .ge 5, 3) := by decide +kernel
theorem d_Ma_joinNumbers_183 : decode b_Ma_joinNumbers 183 = .ok (.iconst 0, 1) := by decide +kernel
theorem d_Ma_joinNumbers_184 : decode b_Ma_joinNumbers 184 = .ok (.ireturn, 1) := by decide +kernel
theorem d_Ma_joinNumbers_185 : decode b_Ma_joinNumbers 185 = .ok (.aload_n 0, 1) := by decide +kernel
theorem d_Ma_joinNumbers_186 : decode b_Ma_joinNumbers 186 = .ok (.iload_n 1, 1) := by decide +kernel
theorem d_Ma_joinNumbers_187 : decode b_Ma_joinNumbers 187 = .ok (.lload_n 2, 1) := by decide +kernel
theorem d_Ma_joinNumbers_188 : decode b_Ma_joinNumbers 188 = .ok (.lload 4, 2) := by decide +kernel
theorem d_Ma_joinNumbers_190 : decode b_Ma_joinNumbers 190 = .ok (.invokestatic 185, 3) := by decide +kernel
theorem d_Ma_joinNumbers_193 : decode b_Ma_joinNumbers 193 = .ok (.ifCond .eq 9, 3) := by decide +kernel
theorem d_Ma_joinNumbers_196 : decode b_Ma_joinNumbers 196 = .ok (.sipush 8449, 3) := by decide +kernel
theorem d_Ma_joinNumbers_199 : decode b_Ma_joinNumbers 199 = .ok (.goto 4, 3) := by decide +kernel
theorem d_Ma_joinNumbers_202 : decode b_Ma_joinNumbers 202 = .ok (.iconst 0, 1) := by decide +kernel
theorem d_Ma_joinNumbers_203 : decode b_Ma_joinNumbers 203 = .ok (.invokevirtual 95, 3) := by decide +kernel
theorem d_Ma_joinNumbers_206 : decode b_Ma_joinNumbers 206 = .ok (.iload_n 1, 1) := by decide +kernel
theorem d_Ma_joinNumbers_207 : decode b_Ma_joinNumbers 207 = .ok (.sipush 157, 3) := by decide +kernel
theorem d_Ma_joinNumbers_210 : decode b_Ma_joinNumbers 210 = .ok (.if_icmp .ne 10, 3) := by decide +kernel
theorem d_Ma_joinNumbers_213 : decode b_Ma_joinNumbers 213 = .ok (.aload_n 0, 1) := by decide +kernel
theorem d_Ma_joinNumbers_214 : decode b_Ma_joinNumbers 214 = .ok (.invokevirtual 129, 3) := by decide +kernel
theorem d_Ma_joinNumbers_217 : decode b_Ma_joinNumbers 217 = .ok (.ifCond .eq 7, 3) := by decide +kernel
theorem d_Ma_joinNumbers_220 : decode b_Ma_joinNumbers 220 = .ok (.iconst 1, 1) := by decide +kernel
theorem d_Ma_joinNumbers_221 : decode b_Ma_joinNumbers 221 = .ok (.goto 4, 3) := by decide +kernel
theorem d_Ma_joinNumbers_224 : decode b_Ma_joinNumbers 224 = .ok (.iconst 0, 1) := by decide +kernel
theorem d_Ma_joinNumbers_225 : decode b_Ma_joinNumbers 225 = .ok (.ireturn, 1) := by decide +kernel
abbrev rm_Ma_joinNumbers : Room := { frames := 3, cells := 0, slots := 0, locals := 63 }
abbrev q_Ma_joinNumbers (D : va_G) (cy : Nat → ClassId) (A : Nat → Prop) (o : Nat) (v_o_sha : Value) (r_signatures : Value) (v_o_ripemd : Value) (v_a_scriptEnd : Value) (v_a_other : Value) (v_a_taken : Value) (r_layout : Value) (r_coin : Value) (a_data : Nat) (a_main : Nat) (i_otherHeight : Int32) (i_ops : Int32) (i_ifs : Int32) (i_ifsNotTaken : Int32) (i_tx : Int32) (i_in : Int32) (i_messageIsThere : Int32) (res : Int32 × Int32 × Int32 × (Nat → Int32) × (Nat → Int32)) : Array Value → State → Outcome → State → Prop := va_Qi (fun r' (_ : Unit) => r' = res.1) (fun _ t => Po D cy A [(o, .inr (6, [v_o_sha, r_signatures, v_o_ripemd, .ref a_data, v_a_scriptEnd, .ref a_main, v_a_other, v_a_taken, .int res.2.1, .int i_otherHeight, .int i_ops, .int i_ifs, .int i_ifsNotTaken, .int res.2.2.1, r_layout, .int i_tx, .int i_in, r_coin, .int i_messageIsThere])), (a_data, .inl (cy 0, 14928, .inl res.2.2.2.1)), (a_main, .inl (cy 1, 204, .inl res.2.2.2.2))] t) A
def I_Ma_joinNumbers_220 (p : Program) (l : Launch) (e : Env) (s : State) (m : MethodId) (args : Array Value) (below : List Frame) (meth : Method) (c : Code) (D : va_G) (cy : Nat → ClassId) (A : Nat → Prop) (ad : Nat → Nat) (o : Nat) (v_o_sha : Value) (r_signatures : Value) (v_o_ripemd : Value) (v_a_scriptEnd : Value) (v_a_other : Value) (v_a_taken : Value) (r_layout : Value) (r_coin : Value) (a_data : Nat) (a_main : Nat) (i_otherHeight : Int32) (i_ops : Int32) (i_ifs : Int32) (i_ifsNotTaken : Int32) (i_tx : Int32) (i_in : Int32) (i_messageIsThere : Int32) (k : Int32 → Int32 → (Nat → Int32) → (Nat → Int32) → Option (Int32 × Int32 × Int32 × (Nat → Int32) × (Nat → Int32))) : Prop :=
  ∀ (u0 : Int32) (u1 : Int32) (u2 : Nat → Int32) (u3 : Nat → Int32) (res : Int32 × Int32 × Int32 × (Nat → Int32) × (Nat → Int32)), k u0 u1 u2 u3 = some res → ∀ (H : Heap) (locs : List Loc) (ls : Array Slot), va_P D classes [(o, .inr (6, [v_o_sha, r_signatures, v_o_ripemd, .ref a_data, v_a_scriptEnd, .ref a_main, v_a_other, v_a_taken, .int u0, .int i_otherHeight, .int i_ops, .int i_ifs, .int i_ifsNotTaken, .int u1, r_layout, .int i_tx, .int i_in, r_coin, .int i_messageIsThere])), (a_data, .inl (cy 0, 14928, .inl u2)), (a_main, .inl (cy 1, 204, .inl u3))] H → va_D A [(o, .inr (6, [v_o_sha, r_signatures, v_o_ripemd, .ref a_data, v_a_scriptEnd, .ref a_main, v_a_other, v_a_taken, .int u0, .int i_otherHeight, .int i_ops, .int i_ifs, .int i_ifsNotTaken, .int u1, r_layout, .int i_tx, .int i_in, r_coin, .int i_messageIsThere])), (a_data, .inl (cy 0, 14928, .inl u2)), (a_main, .inl (cy 1, 204, .inl u3))] → va_S A s.heap H locs → lv_has ls 6 [] → W p l e rm_Ma_joinNumbers s m args below meth c H locs 0 0 (MQ below (q_Ma_joinNumbers D cy A o v_o_sha r_signatures v_o_ripemd v_a_scriptEnd v_a_other v_a_taken r_layout r_coin a_data a_main i_otherHeight i_ops i_ifs i_ifsNotTaken i_tx i_in i_messageIsThere res) args s 0 0 A) (F0 m 220 ls [])
def I_Ma_joinNumbers_203 (p : Program) (l : Launch) (e : Env) (s : State) (m : MethodId) (args : Array Value) (below : List Frame) (meth : Method) (c : Code) (D : va_G) (cy : Nat → ClassId) (A : Nat → Prop) (ad : Nat → Nat) (o : Nat) (v_o_sha : Value) (r_signatures : Value) (v_o_ripemd : Value) (v_a_scriptEnd : Value) (v_a_other : Value) (v_a_taken : Value) (r_layout : Value) (r_coin : Value) (a_data : Nat) (a_main : Nat) (i_otherHeight : Int32) (i_ops : Int32) (i_ifs : Int32) (i_ifsNotTaken : Int32) (i_tx : Int32) (i_in : Int32) (i_messageIsThere : Int32) (k : Int32 → Int32 → Int32 → Int32 → (Nat → Int32) → (Nat → Int32) → Option (Int32 × Int32 × Int32 × (Nat → Int32) × (Nat → Int32))) : Prop :=
  ∀ (x1 : Int32) (y0 : Int32) (u0 : Int32) (u1 : Int32) (u2 : Nat → Int32) (u3 : Nat → Int32) (res : Int32 × Int32 × Int32 × (Nat → Int32) × (Nat → Int32)), k x1 y0 u0 u1 u2 u3 = some res → ∀ (H : Heap) (locs : List Loc) (ls : Array Slot), va_P D classes [(o, .inr (6, [v_o_sha, r_signatures, v_o_ripemd, .ref a_data, v_a_scriptEnd, .ref a_main, v_a_other, v_a_taken, .int u0, .int i_otherHeight, .int i_ops, .int i_ifs, .int i_ifsNotTaken, .int u1, r_layout, .int i_tx, .int i_in, r_coin, .int i_messageIsThere])), (a_data, .inl (cy 0, 14928, .inl u2)), (a_main, .inl (cy 1, 204, .inl u3))] H → va_D A [(o, .inr (6, [v_o_sha, r_signatures, v_o_ripemd, .ref a_data, v_a_scriptEnd, .ref a_main, v_a_other, v_a_taken, .int u0, .int i_otherHeight, .int i_ops, .int i_ifs, .int i_ifsNotTaken, .int u1, r_layout, .int i_tx, .int i_in, r_coin, .int i_messageIsThere])), (a_data, .inl (cy 0, 14928, .inl u2)), (a_main, .inl (cy 1, 204, .inl u3))] → va_S A s.heap H locs → lv_has ls 6 [(0, .ref o), (1, .int x1)] → W p l e rm_Ma_joinNumbers s m args below meth c H locs 0 0 (MQ below (q_Ma_joinNumbers D cy A o v_o_sha r_signatures v_o_ripemd v_a_scriptEnd v_a_other v_a_taken r_layout r_coin a_data a_main i_otherHeight i_ops i_ifs i_ifsNotTaken i_tx i_in i_messageIsThere res) args s 0 0 A) (F0 m 203 ls [.int y0, .ref o])
def I_Ma_joinNumbers_e (p : Program) (l : Launch) (e : Env) (s : State) (m : MethodId) (args : Array Value) (below : List Frame) (meth : Method) (c : Code) (D : va_G) (cy : Nat → ClassId) (A : Nat → Prop) (ad : Nat → Nat) (o : Nat) (v_o_sha : Value) (r_signatures : Value) (v_o_ripemd : Value) (v_a_scriptEnd : Value) (v_a_other : Value) (v_a_taken : Value) (r_layout : Value) (r_coin : Value) (a_data : Nat) (a_main : Nat) (i_otherHeight : Int32) (i_ops : Int32) (i_ifs : Int32) (i_ifsNotTaken : Int32) (i_tx : Int32) (i_in : Int32) (i_messageIsThere : Int32) (k : Int32 → Int32 → Int32 → (Nat → Int32) → (Nat → Int32) → Option (Int32 × Int32 × Int32 × (Nat → Int32) × (Nat → Int32))) : Prop :=
  ∀ (a1 : Int32) (u0 : Int32) (u1 : Int32) (u2 : Nat → Int32) (u3 : Nat → Int32) (res : Int32 × Int32 × Int32 × (Nat → Int32) × (Nat → Int32)), k a1 u0 u1 u2 u3 = some res → ∀ (H : Heap) (locs : List Loc) (ls : Array Slot), va_P D classes [(o, .inr (6, [v_o_sha, r_signatures, v_o_ripemd, .ref a_data, v_a_scriptEnd, .ref a_main, v_a_other, v_a_taken, .int u0, .int i_otherHeight, .int i_ops, .int i_ifs, .int i_ifsNotTaken, .int u1, r_layout, .int i_tx, .int i_in, r_coin, .int i_messageIsThere])), (a_data, .inl (cy 0, 14928, .inl u2)), (a_main, .inl (cy 1, 204, .inl u3))] H → va_D A [(o, .inr (6, [v_o_sha, r_signatures, v_o_ripemd, .ref a_data, v_a_scriptEnd, .ref a_main, v_a_other, v_a_taken, .int u0, .int i_otherHeight, .int i_ops, .int i_ifs, .int i_ifsNotTaken, .int u1, r_layout, .int i_tx, .int i_in, r_coin, .int i_messageIsThere])), (a_data, .inl (cy 0, 14928, .inl u2)), (a_main, .inl (cy 1, 204, .inl u3))] → va_S A s.heap H locs → lv_has ls 6 [(0, .ref o), (1, .int a1)] → W p l e rm_Ma_joinNumbers s m args below meth c H locs 0 0 (MQ below (q_Ma_joinNumbers D cy A o v_o_sha r_signatures v_o_ripemd v_a_scriptEnd v_a_other v_a_taken r_layout r_coin a_data a_main i_otherHeight i_ops i_ifs i_ifsNotTaken i_tx i_in i_messageIsThere res) args s 0 0 A) (F0 m 0 ls [])
set_option maxHeartbeats 8000000 in
set_option maxRecDepth 100000 in
theorem wb_Ma_joinNumbers_220 {p : Program} {l : Launch} {e : Env} {s : State} {m : MethodId} {args : Array Value} {below : List Frame} {meth : Method} {c : Code} {D : va_G} {cy : Nat → ClassId} {A : Nat → Prop} {ad : Nat → Nat} {o : Nat} {v_o_sha : Value} {r_signatures : Value} {v_o_ripemd : Value} {v_a_scriptEnd : Value} {v_a_other : Value} {v_a_taken : Value} {r_layout : Value} {r_coin : Value} {a_data : Nat} {a_main : Nat} {i_otherHeight : Int32} {i_ops : Int32} {i_ifs : Int32} {i_ifsNotTaken : Int32} {i_tx : Int32} {i_in : Int32} {i_messageIsThere : Int32} {fu : Nat} (F : Fx p s m args meth c b_Ma_joinNumbers 6 "CoinKeeper$Machine" "joinNumbers" (some .boolean) D cy ad A) : I_Ma_joinNumbers_220 p l e s m args below meth c D cy A ad o v_o_sha r_signatures v_o_ripemd v_a_scriptEnd v_a_other v_a_taken r_layout r_coin a_data a_main i_otherHeight i_ops i_ifs i_ifsNotTaken i_tx i_in i_messageIsThere (xb_Ma_joinNumbers_220 fu i_otherHeight i_ops i_ifs i_ifsNotTaken i_tx i_in i_messageIsThere) := by
  obtain ⟨hx, hb, hr, hml, hown, hts, hlocks, hK, hA, hSt, hnm, hex⟩ := id F
  intro u0 u1 u2 u3 res hf H locs ls hP hD hS hl
  unfold xb_Ma_joinNumbers_220 at hf
  refine lv_iconst (v := 1) hx hb d_Ma_joinNumbers_220 (by decide) ?_
  refine lv_goto (tgt := 225) hx hb d_Ma_joinNumbers_221 (by decide) ?_
  obtain rfl := Option.some.inj hf
  exact q_rz hx hb hr hlocks hK hP hD hS (isb_n (v := 1) (by decide)) d_Ma_joinNumbers_225
theorem hdc_46 : ({ cls := "CoinKeeper$Machine", name := "verifyTop", desc := "()Z" } : Jvm.MethodName).cls ≠ "java/lang/invoke/MethodHandle" ∧ ({ cls := "CoinKeeper$Machine", name := "verifyTop", desc := "()Z" } : Jvm.MethodName).cls ≠ "java/lang/invoke/VarHandle" ∧ (parseMethodDescriptor ({ cls := "CoinKeeper$Machine", name := "verifyTop", desc := "()Z" } : Jvm.MethodName).desc).map (fun d => d.parameters.length) = some 0 := by decide +kernel
set_option maxHeartbeats 8000000 in
set_option maxRecDepth 100000 in
theorem wb_Ma_joinNumbers_203 {p : Program} {l : Launch} {e : Env} {s : State} {m : MethodId} {args : Array Value} {below : List Frame} {meth : Method} {c : Code} {D : va_G} {cy : Nat → ClassId} {A : Nat → Prop} {ad : Nat → Nat} {o : Nat} {v_o_sha : Value} {r_signatures : Value} {v_o_ripemd : Value} {v_a_scriptEnd : Value} {v_a_other : Value} {v_a_taken : Value} {r_layout : Value} {r_coin : Value} {a_data : Nat} {a_main : Nat} {i_otherHeight : Int32} {i_ops : Int32} {i_ifs : Int32} {i_ifsNotTaken : Int32} {i_tx : Int32} {i_in : Int32} {i_messageIsThere : Int32} {fu : Nat} (F : Fx p s m args meth c b_Ma_joinNumbers 6 "CoinKeeper$Machine" "joinNumbers" (some .boolean) D cy ad A) : I_Ma_joinNumbers_203 p l e s m args below meth c D cy A ad o v_o_sha r_signatures v_o_ripemd v_a_scriptEnd v_a_other v_a_taken r_layout r_coin a_data a_main i_otherHeight i_ops i_ifs i_ifsNotTaken i_tx i_in i_messageIsThere (xb_Ma_joinNumbers_203 fu i_otherHeight i_ops i_ifs i_ifsNotTaken i_tx i_in i_messageIsThere) := by
  obtain ⟨hx, hb, hr, hml, hown, hts, hlocks, hK, hA, hSt, hnm, hex⟩ := id F
  intro x1 y0 u0 u1 u2 u3 res hf H locs ls hP hD hS hl
  unfold xb_Ma_joinNumbers_203 at hf
  obtain ⟨e1, f2, hc, hf⟩ := bdp2 hf
  refine q_av (wr := [(a_data, .inl (cy 0, 14928, .inl u2))]) (va_runV (C := "CoinKeeper$Machine") (As := [.int y0]) (rest := []) ⟨hx, hb, hml, hown, hts⟩ (c_Ma_push l D cy ad fu o v_o_sha r_signatures v_o_ripemd (.ref a_data) v_a_scriptEnd v_a_other v_a_taken r_layout r_coin a_main i_otherHeight i_ops i_ifs i_ifsNotTaken u1 i_tx i_in i_messageIsThere y0 u0 u3 _ hc H.size) ⟨q_cB hts gw_988 gw_6 gw_985 hdc_42 ⟨by decide, by decide⟩, hts _ gw_987, hts _ gs_28⟩ (q_preV (q_pre (hP.sub [0, 2] rfl) (hD.sub [0, 2] (by decide) rfl) hK hSt hS (va_free hD hS hA [0, 2] rfl) _) (va_recv hK (hP.sub [0, 2] rfl) (ci := 6) (q0 := 0) rfl rfl)) rfl rfl hl.1 rfl (lv_room (Nat.le_of_ble_eq_true rfl)) d_Ma_joinNumbers_203 ⟨Nat.le_of_ble_eq_true rfl, Nat.le_of_ble_eq_true rfl⟩) hP hD hS hA [0, 2] [1] rfl rfl (by decide) (by decide) (fun H locs hP hD hS => ?_)
  clear hc
  have hP : va_P D classes [(a_data, .inl (cy 0, 14928, .inl u2)), (o, .inr (6, [v_o_sha, r_signatures, v_o_ripemd, .ref a_data, v_a_scriptEnd, .ref a_main, v_a_other, v_a_taken, .int e1, .int i_otherHeight, .int i_ops, .int i_ifs, .int i_ifsNotTaken, .int u1, r_layout, .int i_tx, .int i_in, r_coin, .int i_messageIsThere])), (a_main, .inl (cy 1, 204, .inl f2))] H := hP
  have hD : va_D A [(a_data, .inl (cy 0, 14928, .inl u2)), (o, .inr (6, [v_o_sha, r_signatures, v_o_ripemd, .ref a_data, v_a_scriptEnd, .ref a_main, v_a_other, v_a_taken, .int e1, .int i_otherHeight, .int i_ops, .int i_ifs, .int i_ifsNotTaken, .int u1, r_layout, .int i_tx, .int i_in, r_coin, .int i_messageIsThere])), (a_main, .inl (cy 1, 204, .inl f2))] := hD
  refine lv_iload_n hx hb d_Ma_joinNumbers_206 rfl (lv_at hl 1 rfl) ?_
  refine lv_sipush (v := 157) hx hb d_Ma_joinNumbers_207 (by decide) ?_
  refine lv_icmp_ne (tgt := 220) hx hb d_Ma_joinNumbers_210 (by decide) (fun cx => ?_) (fun cx => ?_)
  · have hf := ifn cx hf
    exact wb_Ma_joinNumbers_220 (fu := fu) F _ _ _ _ _ hf _ _ _ (hP.sub (ws' := [(o, .inr (6, [v_o_sha, r_signatures, v_o_ripemd, .ref a_data, v_a_scriptEnd, .ref a_main, v_a_other, v_a_taken, .int e1, .int i_otherHeight, .int i_ops, .int i_ifs, .int i_ifsNotTaken, .int u1, r_layout, .int i_tx, .int i_in, r_coin, .int i_messageIsThere])), (a_data, .inl (cy 0, 14928, .inl u2)), (a_main, .inl (cy 1, 204, .inl f2))]) [1, 0, 2] rfl) (hD.sub (ws' := [(o, .inr (6, [v_o_sha, r_signatures, v_o_ripemd, .ref a_data, v_a_scriptEnd, .ref a_main, v_a_other, v_a_taken, .int e1, .int i_otherHeight, .int i_ops, .int i_ifs, .int i_ifsNotTaken, .int u1, r_layout, .int i_tx, .int i_in, r_coin, .int i_messageIsThere])), (a_data, .inl (cy 0, 14928, .inl u2)), (a_main, .inl (cy 1, 204, .inl f2))]) [1, 0, 2] (by decide) rfl) hS (lv_sub hl [] rfl)
  · have hf := ifp cx hf
    refine lv_aload_n hx hb d_Ma_joinNumbers_213 rfl (lv_at hl 0 rfl) ?_
    obtain ⟨v3, e4, hc, hf⟩ := bdp2 hf
    refine q_ai (wr := []) (va_runV (C := "CoinKeeper$Machine") (As := []) (rest := []) ⟨hx, hb, hml, hown, hts⟩ (c_Ma_verifyTop l D cy ad fu o v_o_sha r_signatures v_o_ripemd v_a_scriptEnd v_a_other v_a_taken r_layout r_coin a_data a_main i_otherHeight i_ops i_ifs i_ifsNotTaken u1 i_tx i_in i_messageIsThere u2 f2 e1 _ hc H.size) ⟨q_cB hts gw_1171 gw_6 gw_1168 hdc_46 ⟨by decide, by decide⟩, hts _ gw_1170, hts _ gs_42⟩ (q_preV (q_pre (hP.sub [1, 0, 2] rfl) (hD.sub [1, 0, 2] (by decide) rfl) hK hSt hS (va_free hD hS hA [1, 0, 2] rfl) _) (va_recv hK (hP.sub [1, 0, 2] rfl) (ci := 6) (q0 := 0) rfl rfl)) rfl rfl hl.1 rfl (lv_room (Nat.le_of_ble_eq_true rfl)) d_Ma_joinNumbers_214 ⟨Nat.le_of_ble_eq_true rfl, Nat.le_of_ble_eq_true rfl⟩) hP hD hS hA [1, 0, 2] [] rfl rfl (by decide) (by decide) (fun H locs hP hD hS => ?_)
    clear hc
    have hP : va_P D classes [(o, .inr (6, [v_o_sha, r_signatures, v_o_ripemd, .ref a_data, v_a_scriptEnd, .ref a_main, v_a_other, v_a_taken, .int e4, .int i_otherHeight, .int i_ops, .int i_ifs, .int i_ifsNotTaken, .int u1, r_layout, .int i_tx, .int i_in, r_coin, .int i_messageIsThere])), (a_data, .inl (cy 0, 14928, .inl u2)), (a_main, .inl (cy 1, 204, .inl f2))] H := hP
    have hD : va_D A [(o, .inr (6, [v_o_sha, r_signatures, v_o_ripemd, .ref a_data, v_a_scriptEnd, .ref a_main, v_a_other, v_a_taken, .int e4, .int i_otherHeight, .int i_ops, .int i_ifs, .int i_ifsNotTaken, .int u1, r_layout, .int i_tx, .int i_in, r_coin, .int i_messageIsThere])), (a_data, .inl (cy 0, 14928, .inl u2)), (a_main, .inl (cy 1, 204, .inl f2))] := hD
    refine lv_if_eq (tgt := 224) hx hb d_Ma_joinNumbers_217 (by decide) (fun cx => ?_) (fun cx => ?_)
    · have hf := ifp cx hf
      refine lv_iconst (v := 0) hx hb d_Ma_joinNumbers_224 (by decide) ?_
      obtain rfl := Option.some.inj hf
      exact q_rz hx hb hr hlocks hK hP hD hS (isb_n (v := 0) (by decide)) d_Ma_joinNumbers_225
    · have hf := ifn cx hf
      exact wb_Ma_joinNumbers_220 (fu := fu) F _ _ _ _ _ hf _ _ _ hP hD hS (lv_sub hl [] rfl)
theorem hdc_47 : ({ cls := "CoinKeeper$Machine", name := "pushNumber", desc := "(J)V" } : Jvm.MethodName).cls ≠ "java/lang/invoke/MethodHandle" ∧ ({ cls := "CoinKeeper$Machine", name := "pushNumber", desc := "(J)V" } : Jvm.MethodName).cls ≠ "java/lang/invoke/VarHandle" ∧ (parseMethodDescriptor ({ cls := "CoinKeeper$Machine", name := "pushNumber", desc := "(J)V" } : Jvm.MethodName).desc).map (fun d => d.parameters.length) = some 1 := by decide +kernel
theorem hdc_48 : ({ cls := "CoinKeeper$Machine", name := "holds", desc := "(IJJ)Z" } : Jvm.MethodName).cls ≠ "java/lang/invoke/MethodHandle" ∧ ({ cls := "CoinKeeper$Machine", name := "holds", desc := "(IJJ)Z" } : Jvm.MethodName).cls ≠ "java/lang/invoke/VarHandle" ∧ (parseMethodDescriptor ({ cls := "CoinKeeper$Machine", name := "holds", desc := "(IJJ)Z" } : Jvm.MethodName).desc).map (fun d => d.parameters.length) = some 3 := by decide +kernel
set_option maxHeartbeats 8000000 in
set_option maxRecDepth 100000 in
theorem we_Ma_joinNumbers {p : Program} {l : Launch} {e : Env} {s : State} {m : MethodId} {args : Array Value} {below : List Frame} {meth : Method} {c : Code} {D : va_G} {cy : Nat → ClassId} {A : Nat → Prop} {ad : Nat → Nat} {o : Nat} {v_o_sha : Value} {r_signatures : Value} {v_o_ripemd : Value} {v_a_scriptEnd : Value} {v_a_other : Value} {v_a_taken : Value} {r_layout : Value} {r_coin : Value} {a_data : Nat} {a_main : Nat} {i_otherHeight : Int32} {i_ops : Int32} {i_ifs : Int32} {i_ifsNotTaken : Int32} {i_tx : Int32} {i_in : Int32} {i_messageIsThere : Int32} {fu : Nat} (F : Fx p s m args meth c b_Ma_joinNumbers 6 "CoinKeeper$Machine" "joinNumbers" (some .boolean) D cy ad A) : I_Ma_joinNumbers_e p l e s m args below meth c D cy A ad o v_o_sha r_signatures v_o_ripemd v_a_scriptEnd v_a_other v_a_taken r_layout r_coin a_data a_main i_otherHeight i_ops i_ifs i_ifsNotTaken i_tx i_in i_messageIsThere (x_Ma_joinNumbers fu i_otherHeight i_ops i_ifs i_ifsNotTaken i_tx i_in i_messageIsThere) := by
  obtain ⟨hx, hb, hr, hml, hown, hts, hlocks, hK, hA, hSt, hnm, hex⟩ := id F
  intro a1 u0 u1 u2 u3 res hf H locs ls hP hD hS hl
  unfold x_Ma_joinNumbers at hf
  refine lv_aload_n hx hb d_Ma_joinNumbers_0 rfl (lv_at hl 0 rfl) ?_
  refine va_get (D := D) (ci := 6) (v := .int u0) (C := "CoinKeeper$Machine") (T := F_6) (N := 19) hx hb hts i_6 hown hK hP 0 rfl rfl 8 (by decide) (hts _ gw_212) (fun _ h9 => h9) rfl d_Ma_joinNumbers_1 ?_
  refine lv_iconst (v := 2) hx hb d_Ma_joinNumbers_4 (by decide) ?_
  refine lv_icmp_lt (tgt := 44) hx hb d_Ma_joinNumbers_5 (by decide) (fun cx => ?_) (fun cx => ?_)
  · have hf := ifp cx hf
    refine lv_iconst (v := 0) hx hb d_Ma_joinNumbers_44 (by decide) ?_
    obtain rfl := Option.some.inj hf
    exact q_rz hx hb hr hlocks hK hP hD hS (isb_n (v := 0) (by decide)) d_Ma_joinNumbers_45
  · have hf := ifn cx hf
    refine lv_aload_n hx hb d_Ma_joinNumbers_8 rfl (lv_at hl 0 rfl) ?_
    refine lv_aload_n hx hb d_Ma_joinNumbers_9 rfl (lv_at hl 0 rfl) ?_
    refine va_get (D := D) (ci := 6) (v := .ref a_main) (C := "CoinKeeper$Machine") (T := F_6) (N := 19) hx hb hts i_6 hown hK hP 0 rfl rfl 5 (by decide) (hts _ gw_209) (fun _ h9 => h9) rfl d_Ma_joinNumbers_10 ?_
    refine lv_aload_n hx hb d_Ma_joinNumbers_13 rfl (lv_at hl 0 rfl) ?_
    refine va_get (D := D) (ci := 6) (v := .int u0) (C := "CoinKeeper$Machine") (T := F_6) (N := 19) hx hb hts i_6 hown hK hP 0 rfl rfl 8 (by decide) (hts _ gw_212) (fun _ h9 => h9) rfl d_Ma_joinNumbers_14 ?_
    refine lv_iconst (v := 2) hx hb d_Ma_joinNumbers_17 (by decide) ?_
    refine lv_isub hx hb d_Ma_joinNumbers_18 ?_
    refine lv_topi (fun v1 ev => ?_)
    have hf := bn ev hf
    clear ev
    obtain ⟨hg, hf⟩ := gdp hf
    refine va_iald hx hb hK hP 2 1 rfl rfl (inb_in hg) d_Ma_joinNumbers_19 ?_
    refine lv_topi (fun v2 ev => ?_)
    have hf := bn ev hf
    clear ev
    obtain ⟨v3, hc, hf⟩ := bdp1 hf
    refine q_ai (wr := [(a_data, .inl (cy 0, 14928, .inl u2)), (a_main, .inl (cy 1, 204, .inl u3))]) (va_runV (C := "CoinKeeper$Machine") (As := [.int v2]) (rest := []) ⟨hx, hb, hml, hown, hts⟩ (c_Ma_isNumber l D cy ad fu o v_o_sha r_signatures v_o_ripemd (.ref a_data) v_a_scriptEnd (.ref a_main) v_a_other v_a_taken r_layout r_coin u0 i_otherHeight i_ops i_ifs i_ifsNotTaken u1 i_tx i_in i_messageIsThere v2 _ hc H.size) ⟨q_cB hts gw_1014 gw_6 gw_1011 hdc_44 ⟨by decide, by decide⟩, hts _ gw_1013, hts _ gs_33⟩ (q_preV (q_pre (hP.sub [0] rfl) (hD.sub [0] (by decide) rfl) hK hSt hS (va_free hD hS hA [0] rfl) _) (va_recv hK (hP.sub [0] rfl) (ci := 6) (q0 := 0) rfl rfl)) rfl rfl hl.1 rfl (lv_room (Nat.le_of_ble_eq_true rfl)) d_Ma_joinNumbers_20 ⟨Nat.le_of_ble_eq_true rfl, Nat.le_of_ble_eq_true rfl⟩) hP hD hS hA [0] [1, 2] rfl rfl (by decide) (by decide) (fun H locs hP hD hS => ?_)
    clear hc
    have hP : va_P D classes [(a_data, .inl (cy 0, 14928, .inl u2)), (a_main, .inl (cy 1, 204, .inl u3)), (o, .inr (6, [v_o_sha, r_signatures, v_o_ripemd, .ref a_data, v_a_scriptEnd, .ref a_main, v_a_other, v_a_taken, .int u0, .int i_otherHeight, .int i_ops, .int i_ifs, .int i_ifsNotTaken, .int u1, r_layout, .int i_tx, .int i_in, r_coin, .int i_messageIsThere]))] H := hP
    have hD : va_D A [(a_data, .inl (cy 0, 14928, .inl u2)), (a_main, .inl (cy 1, 204, .inl u3)), (o, .inr (6, [v_o_sha, r_signatures, v_o_ripemd, .ref a_data, v_a_scriptEnd, .ref a_main, v_a_other, v_a_taken, .int u0, .int i_otherHeight, .int i_ops, .int i_ifs, .int i_ifsNotTaken, .int u1, r_layout, .int i_tx, .int i_in, r_coin, .int i_messageIsThere]))] := hD
    refine lv_if_eq (tgt := 44) hx hb d_Ma_joinNumbers_23 (by decide) (fun cx => ?_) (fun cx => ?_)
    · have hf := ifp cx hf
      refine lv_iconst (v := 0) hx hb d_Ma_joinNumbers_44 (by decide) ?_
      obtain rfl := Option.some.inj hf
      exact q_rz hx hb hr hlocks hK (hP.sub [2, 0, 1] rfl) (hD.sub [2, 0, 1] (by decide) rfl) hS (isb_n (v := 0) (by decide)) d_Ma_joinNumbers_45
    · have hf := ifn cx hf
      refine lv_aload_n hx hb d_Ma_joinNumbers_26 rfl (lv_at hl 0 rfl) ?_
      refine lv_aload_n hx hb d_Ma_joinNumbers_27 rfl (lv_at hl 0 rfl) ?_
      refine va_get (D := D) (ci := 6) (v := .ref a_main) (C := "CoinKeeper$Machine") (T := F_6) (N := 19) hx hb hts i_6 hown hK hP 2 rfl rfl 5 (by decide) (hts _ gw_209) (fun _ h9 => h9) rfl d_Ma_joinNumbers_28 ?_
      refine lv_aload_n hx hb d_Ma_joinNumbers_31 rfl (lv_at hl 0 rfl) ?_
      refine va_get (D := D) (ci := 6) (v := .int u0) (C := "CoinKeeper$Machine") (T := F_6) (N := 19) hx hb hts i_6 hown hK hP 2 rfl rfl 8 (by decide) (hts _ gw_212) (fun _ h9 => h9) rfl d_Ma_joinNumbers_32 ?_
      refine lv_iconst (v := 1) hx hb d_Ma_joinNumbers_35 (by decide) ?_
      refine lv_isub hx hb d_Ma_joinNumbers_36 ?_
      refine lv_topi (fun v4 ev => ?_)
      have hf := bn ev hf
      clear ev
      obtain ⟨hg, hf⟩ := gdp hf
      refine va_iald hx hb hK hP 1 1 rfl rfl (inb_in hg) d_Ma_joinNumbers_37 ?_
      refine lv_topi (fun v5 ev => ?_)
      have hf := bn ev hf
      clear ev
      obtain ⟨v6, hc, hf⟩ := bdp1 hf
      refine q_ai (wr := [(a_data, .inl (cy 0, 14928, .inl u2)), (a_main, .inl (cy 1, 204, .inl u3))]) (va_runV (C := "CoinKeeper$Machine") (As := [.int v5]) (rest := []) ⟨hx, hb, hml, hown, hts⟩ (c_Ma_isNumber l D cy ad fu o v_o_sha r_signatures v_o_ripemd (.ref a_data) v_a_scriptEnd (.ref a_main) v_a_other v_a_taken r_layout r_coin u0 i_otherHeight i_ops i_ifs i_ifsNotTaken u1 i_tx i_in i_messageIsThere v5 _ hc H.size) ⟨q_cB hts gw_1014 gw_6 gw_1011 hdc_44 ⟨by decide, by decide⟩, hts _ gw_1013, hts _ gs_33⟩ (q_preV (q_pre (hP.sub [2] rfl) (hD.sub [2] (by decide) rfl) hK hSt hS (va_free hD hS hA [2] rfl) _) (va_recv hK (hP.sub [2] rfl) (ci := 6) (q0 := 0) rfl rfl)) rfl rfl hl.1 rfl (lv_room (Nat.le_of_ble_eq_true rfl)) d_Ma_joinNumbers_38 ⟨Nat.le_of_ble_eq_true rfl, Nat.le_of_ble_eq_true rfl⟩) hP hD hS hA [2] [0, 1] rfl rfl (by decide) (by decide) (fun H locs hP hD hS => ?_)
      clear hc
      have hP : va_P D classes [(a_data, .inl (cy 0, 14928, .inl u2)), (a_main, .inl (cy 1, 204, .inl u3)), (o, .inr (6, [v_o_sha, r_signatures, v_o_ripemd, .ref a_data, v_a_scriptEnd, .ref a_main, v_a_other, v_a_taken, .int u0, .int i_otherHeight, .int i_ops, .int i_ifs, .int i_ifsNotTaken, .int u1, r_layout, .int i_tx, .int i_in, r_coin, .int i_messageIsThere]))] H := hP
      have hD : va_D A [(a_data, .inl (cy 0, 14928, .inl u2)), (a_main, .inl (cy 1, 204, .inl u3)), (o, .inr (6, [v_o_sha, r_signatures, v_o_ripemd, .ref a_data, v_a_scriptEnd, .ref a_main, v_a_other, v_a_taken, .int u0, .int i_otherHeight, .int i_ops, .int i_ifs, .int i_ifsNotTaken, .int u1, r_layout, .int i_tx, .int i_in, r_coin, .int i_messageIsThere]))] := hD
      refine lv_if_ne (tgt := 46) hx hb d_Ma_joinNumbers_41 (by decide) (fun cx => ?_) (fun cx => ?_)
      · have hf := ifn cx hf
        refine lv_aload_n hx hb d_Ma_joinNumbers_46 rfl (lv_at hl 0 rfl) ?_
        refine lv_aload_n hx hb d_Ma_joinNumbers_47 rfl (lv_at hl 0 rfl) ?_
        refine va_get (D := D) (ci := 6) (v := .ref a_main) (C := "CoinKeeper$Machine") (T := F_6) (N := 19) hx hb hts i_6 hown hK hP 2 rfl rfl 5 (by decide) (hts _ gw_209) (fun _ h9 => h9) rfl d_Ma_joinNumbers_48 ?_
        refine lv_aload_n hx hb d_Ma_joinNumbers_51 rfl (lv_at hl 0 rfl) ?_
        refine va_get (D := D) (ci := 6) (v := .int u0) (C := "CoinKeeper$Machine") (T := F_6) (N := 19) hx hb hts i_6 hown hK hP 2 rfl rfl 8 (by decide) (hts _ gw_212) (fun _ h9 => h9) rfl d_Ma_joinNumbers_52 ?_
        refine lv_iconst (v := 2) hx hb d_Ma_joinNumbers_55 (by decide) ?_
        refine lv_isub hx hb d_Ma_joinNumbers_56 ?_
        refine lv_topi (fun v7 ev => ?_)
        have hf := bn ev hf
        clear ev
        obtain ⟨hg, hf⟩ := gdp hf
        refine va_iald hx hb hK hP 1 1 rfl rfl (inb_in hg) d_Ma_joinNumbers_57 ?_
        refine lv_topi (fun v8 ev => ?_)
        have hf := bn ev hf
        clear ev
        obtain ⟨v9, hc, hf⟩ := bdp1 hf
        refine q_al (wr := [(a_main, .inl (cy 1, 204, .inl u3))]) (va_runV (C := "CoinKeeper$Machine") (As := [.int v8]) (rest := []) ⟨hx, hb, hml, hown, hts⟩ (c_Ma_numberOf l D cy ad fu o v_o_sha r_signatures v_o_ripemd v_a_scriptEnd (.ref a_main) v_a_other v_a_taken r_layout r_coin a_data u0 i_otherHeight i_ops i_ifs i_ifsNotTaken u1 i_tx i_in i_messageIsThere u2 v8 _ hc H.size) ⟨q_cB hts gw_1018 gw_6 gw_1015 hdc_45 ⟨by decide, by decide⟩, hts _ gw_1017, hts _ gs_34⟩ (q_preV (q_pre (hP.sub [2, 0] rfl) (hD.sub [2, 0] (by decide) rfl) hK hSt hS (va_free hD hS hA [2, 0] rfl) _) (va_recv hK (hP.sub [2, 0] rfl) (ci := 6) (q0 := 0) rfl rfl)) rfl rfl hl.1 rfl (lv_room (Nat.le_of_ble_eq_true rfl)) d_Ma_joinNumbers_58 ⟨Nat.le_of_ble_eq_true rfl, Nat.le_of_ble_eq_true rfl⟩) hP hD hS hA [2, 0] [1] rfl rfl (by decide) (by decide) (fun H locs hP hD hS => ?_)
        clear hc
        have hP : va_P D classes [(a_main, .inl (cy 1, 204, .inl u3)), (o, .inr (6, [v_o_sha, r_signatures, v_o_ripemd, .ref a_data, v_a_scriptEnd, .ref a_main, v_a_other, v_a_taken, .int u0, .int i_otherHeight, .int i_ops, .int i_ifs, .int i_ifsNotTaken, .int u1, r_layout, .int i_tx, .int i_in, r_coin, .int i_messageIsThere])), (a_data, .inl (cy 0, 14928, .inl u2))] H := hP
        have hD : va_D A [(a_main, .inl (cy 1, 204, .inl u3)), (o, .inr (6, [v_o_sha, r_signatures, v_o_ripemd, .ref a_data, v_a_scriptEnd, .ref a_main, v_a_other, v_a_taken, .int u0, .int i_otherHeight, .int i_ops, .int i_ifs, .int i_ifsNotTaken, .int u1, r_layout, .int i_tx, .int i_in, r_coin, .int i_messageIsThere])), (a_data, .inl (cy 0, 14928, .inl u2))] := hD
        refine lv_lstore_n (lv' := [(2, .long v9), (0, .ref o), (1, .int a1)]) hx hb d_Ma_joinNumbers_61 rfl hl (by decide) rfl (fun ls hl => ?_)
        refine lv_aload_n hx hb d_Ma_joinNumbers_62 rfl (lv_at hl 1 rfl) ?_
        refine lv_aload_n hx hb d_Ma_joinNumbers_63 rfl (lv_at hl 1 rfl) ?_
        refine va_get (D := D) (ci := 6) (v := .ref a_main) (C := "CoinKeeper$Machine") (T := F_6) (N := 19) hx hb hts i_6 hown hK hP 1 rfl rfl 5 (by decide) (hts _ gw_209) (fun _ h9 => h9) rfl d_Ma_joinNumbers_64 ?_
        refine lv_aload_n hx hb d_Ma_joinNumbers_67 rfl (lv_at hl 1 rfl) ?_
        refine va_get (D := D) (ci := 6) (v := .int u0) (C := "CoinKeeper$Machine") (T := F_6) (N := 19) hx hb hts i_6 hown hK hP 1 rfl rfl 8 (by decide) (hts _ gw_212) (fun _ h9 => h9) rfl d_Ma_joinNumbers_68 ?_
        refine lv_iconst (v := 1) hx hb d_Ma_joinNumbers_71 (by decide) ?_
        refine lv_isub hx hb d_Ma_joinNumbers_72 ?_
        refine lv_topi (fun v10 ev => ?_)
        have hf := bn ev hf
        clear ev
        obtain ⟨hg, hf⟩ := gdp hf
        refine va_iald hx hb hK hP 0 1 rfl rfl (inb_in hg) d_Ma_joinNumbers_73 ?_
        refine lv_topi (fun v11 ev => ?_)
        have hf := bn ev hf
        clear ev
        obtain ⟨v12, hc, hf⟩ := bdp1 hf
        refine q_al (wr := [(a_main, .inl (cy 1, 204, .inl u3))]) (va_runV (C := "CoinKeeper$Machine") (As := [.int v11]) (rest := []) ⟨hx, hb, hml, hown, hts⟩ (c_Ma_numberOf l D cy ad fu o v_o_sha r_signatures v_o_ripemd v_a_scriptEnd (.ref a_main) v_a_other v_a_taken r_layout r_coin a_data u0 i_otherHeight i_ops i_ifs i_ifsNotTaken u1 i_tx i_in i_messageIsThere u2 v11 _ hc H.size) ⟨q_cB hts gw_1018 gw_6 gw_1015 hdc_45 ⟨by decide, by decide⟩, hts _ gw_1017, hts _ gs_34⟩ (q_preV (q_pre (hP.sub [1, 2] rfl) (hD.sub [1, 2] (by decide) rfl) hK hSt hS (va_free hD hS hA [1, 2] rfl) _) (va_recv hK (hP.sub [1, 2] rfl) (ci := 6) (q0 := 0) rfl rfl)) rfl rfl hl.1 rfl (lv_room (Nat.le_of_ble_eq_true rfl)) d_Ma_joinNumbers_74 ⟨Nat.le_of_ble_eq_true rfl, Nat.le_of_ble_eq_true rfl⟩) hP hD hS hA [1, 2] [0] rfl rfl (by decide) (by decide) (fun H locs hP hD hS => ?_)
        clear hc
        have hP : va_P D classes [(a_main, .inl (cy 1, 204, .inl u3)), (o, .inr (6, [v_o_sha, r_signatures, v_o_ripemd, .ref a_data, v_a_scriptEnd, .ref a_main, v_a_other, v_a_taken, .int u0, .int i_otherHeight, .int i_ops, .int i_ifs, .int i_ifsNotTaken, .int u1, r_layout, .int i_tx, .int i_in, r_coin, .int i_messageIsThere])), (a_data, .inl (cy 0, 14928, .inl u2))] H := hP
        have hD : va_D A [(a_main, .inl (cy 1, 204, .inl u3)), (o, .inr (6, [v_o_sha, r_signatures, v_o_ripemd, .ref a_data, v_a_scriptEnd, .ref a_main, v_a_other, v_a_taken, .int u0, .int i_otherHeight, .int i_ops, .int i_ifs, .int i_ifsNotTaken, .int u1, r_layout, .int i_tx, .int i_in, r_coin, .int i_messageIsThere])), (a_data, .inl (cy 0, 14928, .inl u2))] := hD
        refine lv_lstore (lv' := [(4, .long v12), (2, .long v9), (0, .ref o), (1, .int a1)]) hx hb d_Ma_joinNumbers_77 hl (by decide) rfl (fun ls hl => ?_)
        refine lv_aload_n hx hb d_Ma_joinNumbers_79 rfl (lv_at hl 2 rfl) ?_
        refine lv_dup hx hb d_Ma_joinNumbers_80 rfl ?_
        refine va_get (D := D) (ci := 6) (v := .int u0) (C := "CoinKeeper$Machine") (T := F_6) (N := 19) hx hb hts i_6 hown hK hP 1 rfl rfl 8 (by decide) (hts _ gw_212) (fun _ h9 => h9) rfl d_Ma_joinNumbers_81 ?_
        refine lv_iconst (v := 2) hx hb d_Ma_joinNumbers_84 (by decide) ?_
        refine lv_isub hx hb d_Ma_joinNumbers_85 ?_
        refine lv_topi (fun v13 ev => ?_)
        have hf := bn ev hf
        clear ev
        refine va_put (D := D) (ci := 6) (v := .int v13) (ty := .int) (C := "CoinKeeper$Machine") (T := F_6) (N := 19) hx hb hts i_6 t_6 t_6_ok n_6 hown hK hP hD hS 1 rfl rfl 8 (by decide) (hts _ gw_212) (fun _ h9 => h9) rfl (by decide +kernel) rfl rfl (Nat.le_of_ble_eq_true rfl) d_Ma_joinNumbers_86 (fun H locs hP hD hS => ?_)
        have hP : va_P D classes [(a_main, .inl (cy 1, 204, .inl u3)), (o, .inr (6, [v_o_sha, r_signatures, v_o_ripemd, .ref a_data, v_a_scriptEnd, .ref a_main, v_a_other, v_a_taken, .int v13, .int i_otherHeight, .int i_ops, .int i_ifs, .int i_ifsNotTaken, .int u1, r_layout, .int i_tx, .int i_in, r_coin, .int i_messageIsThere])), (a_data, .inl (cy 0, 14928, .inl u2))] H := hP
        have hD : va_D A [(a_main, .inl (cy 1, 204, .inl u3)), (o, .inr (6, [v_o_sha, r_signatures, v_o_ripemd, .ref a_data, v_a_scriptEnd, .ref a_main, v_a_other, v_a_taken, .int v13, .int i_otherHeight, .int i_ops, .int i_ifs, .int i_ifsNotTaken, .int u1, r_layout, .int i_tx, .int i_in, r_coin, .int i_messageIsThere])), (a_data, .inl (cy 0, 14928, .inl u2))] := hD
        refine lv_iload_n hx hb d_Ma_joinNumbers_89 rfl (lv_at hl 3 rfl) ?_
        by_cases cx : a1 = 147
        · have hf := ifp cx hf
          refine lv_lookup (tgt := 132) (off := 42) hx hb d_Ma_joinNumbers_90 (by decide +kernel) (by rw [cx]; decide +kernel) (by decide) ?_
          refine lv_aload_n hx hb d_Ma_joinNumbers_132 rfl (lv_at hl 2 rfl) ?_
          refine lv_lload_n hx hb d_Ma_joinNumbers_133 rfl (lv_at hl 1 rfl) ?_
          refine lv_lload hx hb d_Ma_joinNumbers_134 (lv_at hl 0 rfl) ?_
          refine lv_ladd hx hb d_Ma_joinNumbers_136 ?_
          refine lv_topl (fun v14 ev => ?_)
          have hf := bn ev hf
          clear ev
          obtain ⟨e15, e16, f17, f18, hc, hf⟩ := bdp4 hf
          refine q_av (wr := []) (va_runV (C := "CoinKeeper$Machine") (As := [.long v14]) (rest := []) ⟨hx, hb, hml, hown, hts⟩ (c_Ma_pushNumber l D cy ad fu o v_o_sha r_signatures v_o_ripemd v_a_scriptEnd v_a_other v_a_taken r_layout r_coin a_data a_main i_otherHeight i_ops i_ifs i_ifsNotTaken i_tx i_in i_messageIsThere v14 v13 u1 u2 u3 _ hc H.size) ⟨q_cB hts gw_1202 gw_6 gw_1199 hdc_47 ⟨by decide, by decide⟩, hts _ gw_1201, hts _ gs_49⟩ (q_preV (q_pre (hP.sub [1, 2, 0] rfl) (hD.sub [1, 2, 0] (by decide) rfl) hK hSt hS (va_free hD hS hA [1, 2, 0] rfl) _) (va_recv hK (hP.sub [1, 2, 0] rfl) (ci := 6) (q0 := 0) rfl rfl)) rfl rfl hl.1 rfl (lv_room (Nat.le_of_ble_eq_true rfl)) d_Ma_joinNumbers_137 ⟨Nat.le_of_ble_eq_true rfl, Nat.le_of_ble_eq_true rfl⟩) hP hD hS hA [1, 2, 0] [] rfl rfl (by decide) (by decide) (fun H locs hP hD hS => ?_)
          clear hc
          have hP : va_P D classes [(o, .inr (6, [v_o_sha, r_signatures, v_o_ripemd, .ref a_data, v_a_scriptEnd, .ref a_main, v_a_other, v_a_taken, .int e15, .int i_otherHeight, .int i_ops, .int i_ifs, .int i_ifsNotTaken, .int e16, r_layout, .int i_tx, .int i_in, r_coin, .int i_messageIsThere])), (a_data, .inl (cy 0, 14928, .inl f17)), (a_main, .inl (cy 1, 204, .inl f18))] H := hP
          have hD : va_D A [(o, .inr (6, [v_o_sha, r_signatures, v_o_ripemd, .ref a_data, v_a_scriptEnd, .ref a_main, v_a_other, v_a_taken, .int e15, .int i_otherHeight, .int i_ops, .int i_ifs, .int i_ifsNotTaken, .int e16, r_layout, .int i_tx, .int i_in, r_coin, .int i_messageIsThere])), (a_data, .inl (cy 0, 14928, .inl f17)), (a_main, .inl (cy 1, 204, .inl f18))] := hD
          refine lv_iconst (v := 1) hx hb d_Ma_joinNumbers_140 (by decide) ?_
          obtain rfl := Option.some.inj hf
          exact q_rz hx hb hr hlocks hK hP hD hS (isb_n (v := 1) (by decide)) d_Ma_joinNumbers_141
        · have hf := ifn cx hf
          have cn_0 := cx
          clear cx
          by_cases cx : a1 = 148
          · have hf := ifp cx hf
            refine lv_lookup (tgt := 142) (off := 52) hx hb d_Ma_joinNumbers_90 (by decide +kernel) (by rw [cx]; decide +kernel) (by decide) ?_
            refine lv_aload_n hx hb d_Ma_joinNumbers_142 rfl (lv_at hl 2 rfl) ?_
            refine lv_lload_n hx hb d_Ma_joinNumbers_143 rfl (lv_at hl 1 rfl) ?_
            refine lv_lload hx hb d_Ma_joinNumbers_144 (lv_at hl 0 rfl) ?_
            refine lv_lsub hx hb d_Ma_joinNumbers_146 ?_
            refine lv_topl (fun v19 ev => ?_)
            have hf := bn ev hf
            clear ev
            obtain ⟨e20, e21, f22, f23, hc, hf⟩ := bdp4 hf
            refine q_av (wr := []) (va_runV (C := "CoinKeeper$Machine") (As := [.long v19]) (rest := []) ⟨hx, hb, hml, hown, hts⟩ (c_Ma_pushNumber l D cy ad fu o v_o_sha r_signatures v_o_ripemd v_a_scriptEnd v_a_other v_a_taken r_layout r_coin a_data a_main i_otherHeight i_ops i_ifs i_ifsNotTaken i_tx i_in i_messageIsThere v19 v13 u1 u2 u3 _ hc H.size) ⟨q_cB hts gw_1202 gw_6 gw_1199 hdc_47 ⟨by decide, by decide⟩, hts _ gw_1201, hts _ gs_49⟩ (q_preV (q_pre (hP.sub [1, 2, 0] rfl) (hD.sub [1, 2, 0] (by decide) rfl) hK hSt hS (va_free hD hS hA [1, 2, 0] rfl) _) (va_recv hK (hP.sub [1, 2, 0] rfl) (ci := 6) (q0 := 0) rfl rfl)) rfl rfl hl.1 rfl (lv_room (Nat.le_of_ble_eq_true rfl)) d_Ma_joinNumbers_147 ⟨Nat.le_of_ble_eq_true rfl, Nat.le_of_ble_eq_true rfl⟩) hP hD hS hA [1, 2, 0] [] rfl rfl (by decide) (by decide) (fun H locs hP hD hS => ?_)
            clear hc
            have hP : va_P D classes [(o, .inr (6, [v_o_sha, r_signatures, v_o_ripemd, .ref a_data, v_a_scriptEnd, .ref a_main, v_a_other, v_a_taken, .int e20, .int i_otherHeight, .int i_ops, .int i_ifs, .int i_ifsNotTaken, .int e21, r_layout, .int i_tx, .int i_in, r_coin, .int i_messageIsThere])), (a_data, .inl (cy 0, 14928, .inl f22)), (a_main, .inl (cy 1, 204, .inl f23))] H := hP
            have hD : va_D A [(o, .inr (6, [v_o_sha, r_signatures, v_o_ripemd, .ref a_data, v_a_scriptEnd, .ref a_main, v_a_other, v_a_taken, .int e20, .int i_otherHeight, .int i_ops, .int i_ifs, .int i_ifsNotTaken, .int e21, r_layout, .int i_tx, .int i_in, r_coin, .int i_messageIsThere])), (a_data, .inl (cy 0, 14928, .inl f22)), (a_main, .inl (cy 1, 204, .inl f23))] := hD
            refine lv_iconst (v := 1) hx hb d_Ma_joinNumbers_150 (by decide) ?_
            obtain rfl := Option.some.inj hf
            exact q_rz hx hb hr hlocks hK hP hD hS (isb_n (v := 1) (by decide)) d_Ma_joinNumbers_151
          · have hf := ifn cx hf
            have cn_1 := cx
            clear cx
            by_cases cx : a1 = 163
            · have hf := ifp cx hf
              refine lv_lookup (tgt := 152) (off := 62) hx hb d_Ma_joinNumbers_90 (by decide +kernel) (by rw [cx]; decide +kernel) (by decide) ?_
              refine lv_aload_n hx hb d_Ma_joinNumbers_152 rfl (lv_at hl 2 rfl) ?_
              refine lv_lload_n hx hb d_Ma_joinNumbers_153 rfl (lv_at hl 1 rfl) ?_
              refine lv_lload hx hb d_Ma_joinNumbers_154 (lv_at hl 0 rfl) ?_
              refine va_mmin_long (rest := [.ref o]) hx hb (hml.trans hl.1.symm) hown (hts _ gw_1223) (hts _ gw_759) (hts _ gw_15) (hts _ gw_760) (by decide) (Nat.le_of_ble_eq_true rfl) (Nat.zero_le _) (Nat.zero_le _) d_Ma_joinNumbers_156 ?_
              refine lv_topl (fun v24 ev => ?_)
              have hf := bn ev hf
              clear ev
              obtain ⟨e25, e26, f27, f28, hc, hf⟩ := bdp4 hf
              refine q_av (wr := []) (va_runV (C := "CoinKeeper$Machine") (As := [.long v24]) (rest := []) ⟨hx, hb, hml, hown, hts⟩ (c_Ma_pushNumber l D cy ad fu o v_o_sha r_signatures v_o_ripemd v_a_scriptEnd v_a_other v_a_taken r_layout r_coin a_data a_main i_otherHeight i_ops i_ifs i_ifsNotTaken i_tx i_in i_messageIsThere v24 v13 u1 u2 u3 _ hc H.size) ⟨q_cB hts gw_1202 gw_6 gw_1199 hdc_47 ⟨by decide, by decide⟩, hts _ gw_1201, hts _ gs_49⟩ (q_preV (q_pre (hP.sub [1, 2, 0] rfl) (hD.sub [1, 2, 0] (by decide) rfl) hK hSt hS (va_free hD hS hA [1, 2, 0] rfl) _) (va_recv hK (hP.sub [1, 2, 0] rfl) (ci := 6) (q0 := 0) rfl rfl)) rfl rfl hl.1 rfl (lv_room (Nat.le_of_ble_eq_true rfl)) d_Ma_joinNumbers_159 ⟨Nat.le_of_ble_eq_true rfl, Nat.le_of_ble_eq_true rfl⟩) hP hD hS hA [1, 2, 0] [] rfl rfl (by decide) (by decide) (fun H locs hP hD hS => ?_)
              clear hc
              have hP : va_P D classes [(o, .inr (6, [v_o_sha, r_signatures, v_o_ripemd, .ref a_data, v_a_scriptEnd, .ref a_main, v_a_other, v_a_taken, .int e25, .int i_otherHeight, .int i_ops, .int i_ifs, .int i_ifsNotTaken, .int e26, r_layout, .int i_tx, .int i_in, r_coin, .int i_messageIsThere])), (a_data, .inl (cy 0, 14928, .inl f27)), (a_main, .inl (cy 1, 204, .inl f28))] H := hP
              have hD : va_D A [(o, .inr (6, [v_o_sha, r_signatures, v_o_ripemd, .ref a_data, v_a_scriptEnd, .ref a_main, v_a_other, v_a_taken, .int e25, .int i_otherHeight, .int i_ops, .int i_ifs, .int i_ifsNotTaken, .int e26, r_layout, .int i_tx, .int i_in, r_coin, .int i_messageIsThere])), (a_data, .inl (cy 0, 14928, .inl f27)), (a_main, .inl (cy 1, 204, .inl f28))] := hD
              refine lv_iconst (v := 1) hx hb d_Ma_joinNumbers_162 (by decide) ?_
              obtain rfl := Option.some.inj hf
              exact q_rz hx hb hr hlocks hK hP hD hS (isb_n (v := 1) (by decide)) d_Ma_joinNumbers_163
            · have hf := ifn cx hf
              have cn_2 := cx
              clear cx
              by_cases cx : a1 = 164
              · have hf := ifp cx hf
                refine lv_lookup (tgt := 164) (off := 74) hx hb d_Ma_joinNumbers_90 (by decide +kernel) (by rw [cx]; decide +kernel) (by decide) ?_
                refine lv_aload_n hx hb d_Ma_joinNumbers_164 rfl (lv_at hl 2 rfl) ?_
                refine lv_lload_n hx hb d_Ma_joinNumbers_165 rfl (lv_at hl 1 rfl) ?_
                refine lv_lload hx hb d_Ma_joinNumbers_166 (lv_at hl 0 rfl) ?_
                refine va_mmax_long (rest := [.ref o]) hx hb (hml.trans hl.1.symm) hown (hts _ gw_1224) (hts _ gw_762) (hts _ gw_15) (hts _ gw_763) (by decide) (Nat.le_of_ble_eq_true rfl) (Nat.zero_le _) (Nat.zero_le _) d_Ma_joinNumbers_168 ?_
                refine lv_topl (fun v29 ev => ?_)
                have hf := bn ev hf
                clear ev
                obtain ⟨e30, e31, f32, f33, hc, hf⟩ := bdp4 hf
                refine q_av (wr := []) (va_runV (C := "CoinKeeper$Machine") (As := [.long v29]) (rest := []) ⟨hx, hb, hml, hown, hts⟩ (c_Ma_pushNumber l D cy ad fu o v_o_sha r_signatures v_o_ripemd v_a_scriptEnd v_a_other v_a_taken r_layout r_coin a_data a_main i_otherHeight i_ops i_ifs i_ifsNotTaken i_tx i_in i_messageIsThere v29 v13 u1 u2 u3 _ hc H.size) ⟨q_cB hts gw_1202 gw_6 gw_1199 hdc_47 ⟨by decide, by decide⟩, hts _ gw_1201, hts _ gs_49⟩ (q_preV (q_pre (hP.sub [1, 2, 0] rfl) (hD.sub [1, 2, 0] (by decide) rfl) hK hSt hS (va_free hD hS hA [1, 2, 0] rfl) _) (va_recv hK (hP.sub [1, 2, 0] rfl) (ci := 6) (q0 := 0) rfl rfl)) rfl rfl hl.1 rfl (lv_room (Nat.le_of_ble_eq_true rfl)) d_Ma_joinNumbers_171 ⟨Nat.le_of_ble_eq_true rfl, Nat.le_of_ble_eq_true rfl⟩) hP hD hS hA [1, 2, 0] [] rfl rfl (by decide) (by decide) (fun H locs hP hD hS => ?_)
                clear hc
                have hP : va_P D classes [(o, .inr (6, [v_o_sha, r_signatures, v_o_ripemd, .ref a_data, v_a_scriptEnd, .ref a_main, v_a_other, v_a_taken, .int e30, .int i_otherHeight, .int i_ops, .int i_ifs, .int i_ifsNotTaken, .int e31, r_layout, .int i_tx, .int i_in, r_coin, .int i_messageIsThere])), (a_data, .inl (cy 0, 14928, .inl f32)), (a_main, .inl (cy 1, 204, .inl f33))] H := hP
                have hD : va_D A [(o, .inr (6, [v_o_sha, r_signatures, v_o_ripemd, .ref a_data, v_a_scriptEnd, .ref a_main, v_a_other, v_a_taken, .int e30, .int i_otherHeight, .int i_ops, .int i_ifs, .int i_ifsNotTaken, .int e31, r_layout, .int i_tx, .int i_in, r_coin, .int i_messageIsThere])), (a_data, .inl (cy 0, 14928, .inl f32)), (a_main, .inl (cy 1, 204, .inl f33))] := hD
                refine lv_iconst (v := 1) hx hb d_Ma_joinNumbers_174 (by decide) ?_
                obtain rfl := Option.some.inj hf
                exact q_rz hx hb hr hlocks hK hP hD hS (isb_n (v := 1) (by decide)) d_Ma_joinNumbers_175
              · have hf := ifn cx hf
                have cn_3 := cx
                clear cx
                refine lv_lookup (tgt := 176) (off := 86) hx hb d_Ma_joinNumbers_90 (by decide +kernel) ((lv_osw cn_0 (by decide)).trans ((lv_osw cn_1 (by decide)).trans ((lv_osw cn_2 (by decide)).trans ((lv_osw cn_3 (by decide)).trans (rfl))))) (by decide) ?_
                clear cn_0 cn_1 cn_2 cn_3
                refine lv_iload_n hx hb d_Ma_joinNumbers_176 rfl (lv_at hl 3 rfl) ?_
                refine lv_sipush (v := 154) hx hb d_Ma_joinNumbers_177 (by decide) ?_
                refine lv_icmp_ge (tgt := 185) hx hb d_Ma_joinNumbers_180 (by decide) (fun cx => ?_) (fun cx => ?_)
                · have hf := ifp cx hf
                  refine lv_aload_n hx hb d_Ma_joinNumbers_185 rfl (lv_at hl 2 rfl) ?_
                  refine lv_iload_n hx hb d_Ma_joinNumbers_186 rfl (lv_at hl 3 rfl) ?_
                  refine lv_lload_n hx hb d_Ma_joinNumbers_187 rfl (lv_at hl 1 rfl) ?_
                  refine lv_lload hx hb d_Ma_joinNumbers_188 (lv_at hl 0 rfl) ?_
                  obtain ⟨v34, hc, hf⟩ := bdp1 hf
                  refine q_ai (wr := [(a_main, .inl (cy 1, 204, .inl u3)), (o, .inr (6, [v_o_sha, r_signatures, v_o_ripemd, .ref a_data, v_a_scriptEnd, .ref a_main, v_a_other, v_a_taken, .int v13, .int i_otherHeight, .int i_ops, .int i_ifs, .int i_ifsNotTaken, .int u1, r_layout, .int i_tx, .int i_in, r_coin, .int i_messageIsThere])), (a_data, .inl (cy 0, 14928, .inl u2))]) (va_runS (As := [.int a1, .long v9, .long v12]) (rest := [.ref o]) ⟨hx, hb, hml, hown, hts⟩ (c_Ma_holds l D cy ad fu a1 v9 v12 _ hc H.size) ⟨q_cB hts gw_1227 gw_6 gw_1225 hdc_48 ⟨by decide, by decide⟩, hts _ gw_1226⟩ (q_pre (hP.sub [] rfl) (hD.sub [] (by decide) rfl) hK hSt hS (va_free hD hS hA [] rfl) _) rfl rfl hl.1 rfl (lv_room (Nat.le_of_ble_eq_true rfl)) d_Ma_joinNumbers_190 ⟨Nat.le_of_ble_eq_true rfl, Nat.le_of_ble_eq_true rfl⟩) hP hD hS hA [] [0, 1, 2] rfl rfl (by decide) (by decide) (fun H locs hP hD hS => ?_)
                  clear hc
                  have hP : va_P D classes [(a_main, .inl (cy 1, 204, .inl u3)), (o, .inr (6, [v_o_sha, r_signatures, v_o_ripemd, .ref a_data, v_a_scriptEnd, .ref a_main, v_a_other, v_a_taken, .int v13, .int i_otherHeight, .int i_ops, .int i_ifs, .int i_ifsNotTaken, .int u1, r_layout, .int i_tx, .int i_in, r_coin, .int i_messageIsThere])), (a_data, .inl (cy 0, 14928, .inl u2))] H := hP
                  have hD : va_D A [(a_main, .inl (cy 1, 204, .inl u3)), (o, .inr (6, [v_o_sha, r_signatures, v_o_ripemd, .ref a_data, v_a_scriptEnd, .ref a_main, v_a_other, v_a_taken, .int v13, .int i_otherHeight, .int i_ops, .int i_ifs, .int i_ifsNotTaken, .int u1, r_layout, .int i_tx, .int i_in, r_coin, .int i_messageIsThere])), (a_data, .inl (cy 0, 14928, .inl u2))] := hD
                  refine lv_if_eq (tgt := 202) hx hb d_Ma_joinNumbers_193 (by decide) (fun cx => ?_) (fun cx => ?_)
                  · have hf := ifp cx hf
                    refine lv_iconst (v := 0) hx hb d_Ma_joinNumbers_202 (by decide) ?_
                    exact wb_Ma_joinNumbers_203 (fu := fu) F _ _ _ _ _ _ _ hf _ _ _ (hP.sub (ws' := [(o, .inr (6, [v_o_sha, r_signatures, v_o_ripemd, .ref a_data, v_a_scriptEnd, .ref a_main, v_a_other, v_a_taken, .int v13, .int i_otherHeight, .int i_ops, .int i_ifs, .int i_ifsNotTaken, .int u1, r_layout, .int i_tx, .int i_in, r_coin, .int i_messageIsThere])), (a_data, .inl (cy 0, 14928, .inl u2)), (a_main, .inl (cy 1, 204, .inl u3))]) [1, 2, 0] rfl) (hD.sub (ws' := [(o, .inr (6, [v_o_sha, r_signatures, v_o_ripemd, .ref a_data, v_a_scriptEnd, .ref a_main, v_a_other, v_a_taken, .int v13, .int i_otherHeight, .int i_ops, .int i_ifs, .int i_ifsNotTaken, .int u1, r_layout, .int i_tx, .int i_in, r_coin, .int i_messageIsThere])), (a_data, .inl (cy 0, 14928, .inl u2)), (a_main, .inl (cy 1, 204, .inl u3))]) [1, 2, 0] (by decide) rfl) hS (lv_sub hl [2, 3] rfl)
                  · have hf := ifn cx hf
                    refine lv_sipush (v := 8449) hx hb d_Ma_joinNumbers_196 (by decide) ?_
                    refine lv_goto (tgt := 203) hx hb d_Ma_joinNumbers_199 (by decide) ?_
                    exact wb_Ma_joinNumbers_203 (fu := fu) F _ _ _ _ _ _ _ hf _ _ _ (hP.sub (ws' := [(o, .inr (6, [v_o_sha, r_signatures, v_o_ripemd, .ref a_data, v_a_scriptEnd, .ref a_main, v_a_other, v_a_taken, .int v13, .int i_otherHeight, .int i_ops, .int i_ifs, .int i_ifsNotTaken, .int u1, r_layout, .int i_tx, .int i_in, r_coin, .int i_messageIsThere])), (a_data, .inl (cy 0, 14928, .inl u2)), (a_main, .inl (cy 1, 204, .inl u3))]) [1, 2, 0] rfl) (hD.sub (ws' := [(o, .inr (6, [v_o_sha, r_signatures, v_o_ripemd, .ref a_data, v_a_scriptEnd, .ref a_main, v_a_other, v_a_taken, .int v13, .int i_otherHeight, .int i_ops, .int i_ifs, .int i_ifsNotTaken, .int u1, r_layout, .int i_tx, .int i_in, r_coin, .int i_messageIsThere])), (a_data, .inl (cy 0, 14928, .inl u2)), (a_main, .inl (cy 1, 204, .inl u3))]) [1, 2, 0] (by decide) rfl) hS (lv_sub hl [2, 3] rfl)
                · have hf := ifn cx hf
                  refine lv_iconst (v := 0) hx hb d_Ma_joinNumbers_183 (by decide) ?_
                  obtain rfl := Option.some.inj hf
                  exact q_rz hx hb hr hlocks hK (hP.sub [1, 2, 0] rfl) (hD.sub [1, 2, 0] (by decide) rfl) hS (isb_n (v := 0) (by decide)) d_Ma_joinNumbers_184
      · have hf := ifp cx hf
        refine lv_iconst (v := 0) hx hb d_Ma_joinNumbers_44 (by decide) ?_
        obtain rfl := Option.some.inj hf
        exact q_rz hx hb hr hlocks hK (hP.sub [2, 0, 1] rfl) (hD.sub [2, 0, 1] (by decide) rfl) hS (isb_n (v := 0) (by decide)) d_Ma_joinNumbers_45
theorem c_Ma_joinNumbers (l : Launch) (D : va_G) (cy : Nat → ClassId) (ad : Nat → Nat) (fu : Nat) (o : Nat) (v_o_sha : Value) (r_signatures : Value) (v_o_ripemd : Value) (v_a_scriptEnd : Value) (v_a_other : Value) (v_a_taken : Value) (r_layout : Value) (r_coin : Value) (a_data : Nat) (a_main : Nat) (i_otherHeight : Int32) (i_ops : Int32) (i_ifs : Int32) (i_ifsNotTaken : Int32) (i_tx : Int32) (i_in : Int32) (i_messageIsThere : Int32) (a1 : Int32) (u0 : Int32) (u1 : Int32) (u2 : Nat → Int32) (u3 : Nat → Int32) (res : Int32 × Int32 × Int32 × (Nat → Int32) × (Nat → Int32)) (hf : x_Ma_joinNumbers fu i_otherHeight i_ops i_ifs i_ifsNotTaken i_tx i_in i_messageIsThere a1 u0 u1 u2 u3 = some res) (sz : Nat) : Met l ({ cls := "CoinKeeper$Machine", name := "joinNumbers", desc := "(I)Z" } : Jvm.MethodName) (.code ({ cls := "CoinKeeper$Machine", name := "joinNumbers", desc := "(I)Z" } : Jvm.MethodName) b_Ma_joinNumbers 6 (some .boolean) :: gw) rm_Ma_joinNumbers (va_Pc [.ref o, .int a1] (Pr D cy ad [(o, .inr (6, [v_o_sha, r_signatures, v_o_ripemd, .ref a_data, v_a_scriptEnd, .ref a_main, v_a_other, v_a_taken, .int u0, .int i_otherHeight, .int i_ops, .int i_ifs, .int i_ifsNotTaken, .int u1, r_layout, .int i_tx, .int i_in, r_coin, .int i_messageIsThere])), (a_data, .inl (cy 0, 14928, .inl u2)), (a_main, .inl (cy 1, 204, .inl u3))] sz)) (q_Ma_joinNumbers D cy (va_A [(o, .inr (6, [v_o_sha, r_signatures, v_o_ripemd, .ref a_data, v_a_scriptEnd, .ref a_main, v_a_other, v_a_taken, .int u0, .int i_otherHeight, .int i_ops, .int i_ifs, .int i_ifsNotTaken, .int u1, r_layout, .int i_tx, .int i_in, r_coin, .int i_messageIsThere])), (a_data, .inl (cy 0, 14928, .inl u2)), (a_main, .inl (cy 1, 204, .inl u3))] sz) o v_o_sha r_signatures v_o_ripemd v_a_scriptEnd v_a_other v_a_taken r_layout r_coin a_data a_main i_otherHeight i_ops i_ifs i_ifsNotTaken i_tx i_in i_messageIsThere res) 0 0 (va_A [(o, .inr (6, [v_o_sha, r_signatures, v_o_ripemd, .ref a_data, v_a_scriptEnd, .ref a_main, v_a_other, v_a_taken, .int u0, .int i_otherHeight, .int i_ops, .int i_ifs, .int i_ifsNotTaken, .int u1, r_layout, .int i_tx, .int i_in, r_coin, .int i_messageIsThere])), (a_data, .inl (cy 0, 14928, .inl u2)), (a_main, .inl (cy 1, 204, .inl u3))] sz) :=
  q_met (Qc := fun A => q_Ma_joinNumbers D cy A o v_o_sha r_signatures v_o_ripemd v_a_scriptEnd v_a_other v_a_taken r_layout r_coin a_data a_main i_otherHeight i_ops i_ifs i_ifsNotTaken i_tx i_in i_messageIsThere res) (by decide) rfl rfl (Nat.le_of_ble_eq_true rfl) (fun p e s m below meth c ls F hP hD hS hl => we_Ma_joinNumbers (fu := fu) F a1 u0 u1 u2 u3 res hf _ _ _ hP hD hS hl) sz
abbrev b_Ma_changeNumber : ByteArray := prog_7_method_24_code
theorem d_Ma_changeNumber_0 : decode b_Ma_changeNumber 0 = .ok (.aload_n 0, 1) := by decide +kernel
theorem d_Ma_changeNumber_1 : decode b_Ma_changeNumber 1 = .ok (.getfield 73, 3) := by decide +kernel
theorem d_Ma_changeNumber_4 : decode b_Ma_changeNumber 4 = .ok (.iconst 1, 1) := by decide +kernel
theorem d_Ma_changeNumber_5 : decode b_Ma_changeNumber 5 = .ok (.if_icmp .lt 21, 3) := by decide +kernel
theorem d_Ma_changeNumber_8 : decode b_Ma_changeNumber 8 = .ok (.aload_n 0, 1) := by decide +kernel
theorem d_Ma_changeNumber_9 : decode b_Ma_changeNumber 9 = .ok (.aload_n 0, 1) := by decide +kernel
theorem d_Ma_changeNumber_10 : decode b_Ma_changeNumber 10 = .ok (.getfield 26, 3) := by decide +kernel
theorem d_Ma_changeNumber_13 : decode b_Ma_changeNumber 13 = .ok (.aload_n 0, 1) := by decide +kernel
theorem d_Ma_changeNumber_14 : decode b_Ma_changeNumber 14 = .ok (.getfield 73, 3) := by decide +kernel
theorem d_Ma_changeNumber_17 : decode b_Ma_changeNumber 17 = .ok (.iconst 1, 1) := by decide +kernel
theorem d_Ma_changeNumber_18 : decode b_Ma_changeNumber 18 = .ok (.isub, 1) := by decide +kernel
theorem d_Ma_changeNumber_19 : decode b_Ma_changeNumber 19 = .ok (.iaload, 1) := by decide +kernel
theorem d_Ma_changeNumber_20 : decode b_Ma_changeNumber 20 = .ok (.invokevirtual 167, 3) := by decide +kernel
theorem d_Ma_changeNumber_23 : decode b_Ma_changeNumber 23 = .ok (.ifCond .ne 5, 3) := by decide +kernel
theorem d_Ma_changeNumber_26 : decode b_Ma_changeNumber 26 = .ok (.iconst 0, 1) := by decide +kernel
theorem d_Ma_changeNumber_27 : decode b_Ma_changeNumber 27 = .ok (.ireturn, 1) := by decide +kernel
theorem d_Ma_changeNumber_28 : decode b_Ma_changeNumber 28 = .ok (.aload_n 0, 1) := by decide +kernel
theorem d_Ma_changeNumber_29 : decode b_Ma_changeNumber 29 = .ok (.dup, 1) := by decide +kernel
theorem d_Ma_changeNumber_30 : decode b_Ma_changeNumber 30 = .ok (.getfield 73, 3) := by decide +kernel
theorem d_Ma_changeNumber_33 : decode b_Ma_changeNumber 33 = .ok (.iconst 1, 1) := by decide +kernel
theorem d_Ma_changeNumber_34 : decode b_Ma_changeNumber 34 = .ok (.isub, 1) := by decide +kernel
theorem d_Ma_changeNumber_35 : decode b_Ma_changeNumber 35 = .ok (.putfield 73, 3) := by decide +kernel
theorem d_Ma_changeNumber_38 : decode b_Ma_changeNumber 38 = .ok (.aload_n 0, 1) := by decide +kernel
theorem d_Ma_changeNumber_39 : decode b_Ma_changeNumber 39 = .ok (.aload_n 0, 1) := by decide +kernel
theorem d_Ma_changeNumber_40 : decode b_Ma_changeNumber 40 = .ok (.getfield 26, 3) := by decide +kernel
theorem d_Ma_changeNumber_43 : decode b_Ma_changeNumber 43 = .ok (.aload_n 0, 1) := by decide +kernel
theorem d_Ma_changeNumber_44 : decode b_Ma_changeNumber 44 = .ok (.getfield 73, 3) := by decide +kernel
theorem d_Ma_changeNumber_47 : decode b_Ma_changeNumber 47 = .ok (.iaload, 1) := by decide +kernel
theorem d_Ma_changeNumber_48 : decode b_Ma_changeNumber 48 = .ok (.invokevirtual 170, 3) := by decide +kernel
theorem d_Ma_changeNumber_51 : decode b_Ma_changeNumber 51 = .ok (.lstore_n 2, 1) := by decide +kernel
theorem d_Ma_changeNumber_52 : decode b_Ma_changeNumber 52 = .ok (.iload_n 1, 1) := by decide +kernel
theorem d_Ma_changeNumber_53 : decode b_Ma_changeNumber 53 = .ok (.tableswitch 121 139 146 #[47, 56, 121, 121, 65, 73, 83, 102], 47) := by decide +kernel
theorem d_Ma_changeNumber_100 : decode b_Ma_changeNumber 100 = .ok (.aload_n 0, 1) := by decide +kernel
theorem d_Ma_changeNumber_101 : decode b_Ma_changeNumber 101 = .ok (.lload_n 2, 1) := by decide +kernel
theorem d_Ma_changeNumber_102 : decode b_Ma_changeNumber 102 = .ok (.lconst 1, 1) := by decide +kernel
theorem d_Ma_changeNumber_103 : decode b_Ma_changeNumber 103 = .ok (.ladd, 1) := by decide +kernel
theorem d_Ma_changeNumber_104 : decode b_Ma_changeNumber 104 = .ok (.invokevirtual 160, 3) := by decide +kernel
theorem d_Ma_changeNumber_107 : decode b_Ma_changeNumber 107 = .ok (.iconst 1, 1) := by decide +kernel
theorem d_Ma_changeNumber_108 : decode b_Ma_changeNumber 108 = .ok (.ireturn, 1) := by decide +kernel
theorem d_Ma_changeNumber_109 : decode b_Ma_changeNumber 109 = .ok (.aload_n 0, 1) := by decide +kernel
theorem d_Ma_changeNumber_110 : decode b_Ma_changeNumber 110 = .ok (.lload_n 2, 1) := by decide +kernel
theorem d_Ma_changeNumber_111 : decode b_Ma_changeNumber 111 = .ok (.lconst 1, 1) := by decide +kernel
theorem d_Ma_changeNumber_112 : decode b_Ma_changeNumber 112 = .ok (.lsub, 1) := by decide +kernel
theorem d_Ma_changeNumber_113 : decode b_Ma_changeNumber 113 = .ok (.invokevirtual 160, 3) := by decide +kernel
theorem d_Ma_changeNumber_116 : decode b_Ma_changeNumber 116 = .ok (.iconst 1, 1) := by decide +kernel
theorem d_Ma_changeNumber_117 : decode b_Ma_changeNumber 117 = .ok (.ireturn, 1) := by decide +kernel
theorem d_Ma_changeNumber_118 : decode b_Ma_changeNumber 118 = .ok (.aload_n 0, 1) := by decide +kernel
theorem d_Ma_changeNumber_119 : decode b_Ma_changeNumber 119 = .ok (.lload_n 2, 1) := by decide +kernel
theorem d_Ma_changeNumber_120 : decode b_Ma_changeNumber 120 = .ok (.lneg, 1) := by decide +kernel
theorem d_Ma_changeNumber_121 : decode b_Ma_changeNumber 121 = .ok (.invokevirtual 160, 3) := by decide +kernel
theorem d_Ma_changeNumber_124 : decode b_Ma_changeNumber 124 = .ok (.iconst 1, 1) := by decide +kernel
theorem d_Ma_changeNumber_125 : decode b_Ma_changeNumber 125 = .ok (.ireturn, 1) := by decide +kernel
theorem d_Ma_changeNumber_126 : decode b_Ma_changeNumber 126 = .ok (.aload_n 0, 1) := by decide +kernel
theorem d_Ma_changeNumber_127 : decode b_Ma_changeNumber 127 = .ok (.lload_n 2, 1) := by decide +kernel
theorem d_Ma_changeNumber_128 : decode b_Ma_changeNumber 128 = .ok (.invokestatic 111, 3) := by decide +kernel
theorem d_Ma_changeNumber_131 : decode b_Ma_changeNumber 131 = .ok (.invokevirtual 160, 3) := by decide +kernel
theorem d_Ma_changeNumber_134 : decode b_Ma_changeNumber 134 = .ok (.iconst 1, 1) := by decide +kernel
theorem d_Ma_changeNumber_135 : decode b_Ma_changeNumber 135 = .ok (.ireturn, 1) := by decide +kernel
theorem d_Ma_changeNumber_136 : decode b_Ma_changeNumber 136 = .ok (.aload_n 0, 1) := by decide +kernel
theorem d_Ma_changeNumber_137 : decode b_Ma_changeNumber 137 = .ok (.lload_n 2, 1) := by decide +kernel
theorem d_Ma_changeNumber_138 : decode b_Ma_changeNumber 138 = .ok (.lconst 0, 1) := by decide +kernel
theorem d_Ma_changeNumber_139 : decode b_Ma_changeNumber 139 = .ok (.lcmp, 1) := by decide +kernel
theorem d_Ma_changeNumber_140 : decode b_Ma_changeNumber 140 = .ok (.ifCond .ne 9, 3) := by decide +kernel
theorem d_Ma_changeNumber_143 : decode b_Ma_changeNumber 143 = .ok (.sipush 8449, 3) := by decide +kernel
theorem d_Ma_changeNumber_146 : decode b_Ma_changeNumber 146 = .ok (.goto 4, 3) := by decide +kernel
theorem d_Ma_changeNumber_149 : decode b_Ma_changeNumber 149 = .ok (.iconst 0, 1) := by decide +kernel
theorem d_Ma_changeNumber_150 : decode b_Ma_changeNumber 150 = .ok (.invokevirtual 95, 3) := by decide +kernel
theorem d_Ma_changeNumber_153 : decode b_Ma_changeNumber 153 = .ok (.iconst 1, 1) := by decide +kernel
theorem d_Ma_changeNumber_154 : decode b_Ma_changeNumber 154 = .ok (.ireturn, 1) := by decide +kernel
theorem d_Ma_changeNumber_155 : decode b_Ma_changeNumber 155 = .ok (.aload_n 0, 1) := by decide +kernel
theorem d_Ma_changeNumber_156 : decode b_Ma_changeNumber 156 = .ok (.lload_n 2, 1) := by decide +kernel
theorem d_Ma_changeNumber_157 : decode b_Ma_changeNumber 157 = .ok (.lconst 0, 1) := by decide +kernel
theorem d_Ma_changeNumber_158 : decode b_Ma_changeNumber 158 = .ok (.lcmp, 1) := by decide +kernel
theorem d_Ma_changeNumber_159 : decode b_Ma_changeNumber 159 = .ok (.ifCond .eq 9, 3) := by decide +kernel
theorem d_Ma_changeNumber_162 : decode b_Ma_changeNumber 162 = .ok (.sipush 8449, 3) := by decide +kernel
theorem d_Ma_changeNumber_165 : decode b_Ma_changeNumber 165 = .ok (.goto 4, 3) := by decide +kernel
theorem d_Ma_changeNumber_168 : decode b_Ma_changeNumber 168 = .ok (.iconst 0, 1) := by decide +kernel
theorem d_Ma_changeNumber_169 : decode b_Ma_changeNumber 169 = .ok (.invokevirtual 95, 3) := by decide +kernel
theorem d_Ma_changeNumber_172 : decode b_Ma_changeNumber 172 = .ok (.iconst 1, 1) := by decide +kernel
theorem d_Ma_changeNumber_173 : decode b_Ma_changeNumber 173 = .ok (.ireturn, 1) := by decide +kernel
theorem d_Ma_changeNumber_174 : decode b_Ma_changeNumber 174 = .ok (.iconst 0, 1) := by decide +kernel
theorem d_Ma_changeNumber_175 : decode b_Ma_changeNumber 175 = .ok (.ireturn, 1) := by decide +kernel
abbrev rm_Ma_changeNumber : Room := { frames := 2, cells := 0, slots := 0, locals := 51 }
abbrev q_Ma_changeNumber (D : va_G) (cy : Nat → ClassId) (A : Nat → Prop) (o : Nat) (v_o_sha : Value) (r_signatures : Value) (v_o_ripemd : Value) (v_a_scriptEnd : Value) (v_a_other : Value) (v_a_taken : Value) (r_layout : Value) (r_coin : Value) (a_data : Nat) (a_main : Nat) (i_otherHeight : Int32) (i_ops : Int32) (i_ifs : Int32) (i_ifsNotTaken : Int32) (i_tx : Int32) (i_in : Int32) (i_messageIsThere : Int32) (res : Int32 × Int32 × Int32 × (Nat → Int32) × (Nat → Int32)) : Array Value → State → Outcome → State → Prop := va_Qi (fun r' (_ : Unit) => r' = res.1) (fun _ t => Po D cy A [(o, .inr (6, [v_o_sha, r_signatures, v_o_ripemd, .ref a_data, v_a_scriptEnd, .ref a_main, v_a_other, v_a_taken, .int res.2.1, .int i_otherHeight, .int i_ops, .int i_ifs, .int i_ifsNotTaken, .int res.2.2.1, r_layout, .int i_tx, .int i_in, r_coin, .int i_messageIsThere])), (a_data, .inl (cy 0, 14928, .inl res.2.2.2.1)), (a_main, .inl (cy 1, 204, .inl res.2.2.2.2))] t) A
def I_Ma_changeNumber_150 (p : Program) (l : Launch) (e : Env) (s : State) (m : MethodId) (args : Array Value) (below : List Frame) (meth : Method) (c : Code) (D : va_G) (cy : Nat → ClassId) (A : Nat → Prop) (ad : Nat → Nat) (o : Nat) (v_o_sha : Value) (r_signatures : Value) (v_o_ripemd : Value) (v_a_scriptEnd : Value) (v_a_other : Value) (v_a_taken : Value) (r_layout : Value) (r_coin : Value) (a_data : Nat) (a_main : Nat) (i_otherHeight : Int32) (i_ops : Int32) (i_ifs : Int32) (i_ifsNotTaken : Int32) (i_tx : Int32) (i_in : Int32) (i_messageIsThere : Int32) (k : Int32 → Int32 → Int32 → (Nat → Int32) → (Nat → Int32) → Option (Int32 × Int32 × Int32 × (Nat → Int32) × (Nat → Int32))) : Prop :=
  ∀ (y0 : Int32) (u0 : Int32) (u1 : Int32) (u2 : Nat → Int32) (u3 : Nat → Int32) (res : Int32 × Int32 × Int32 × (Nat → Int32) × (Nat → Int32)), k y0 u0 u1 u2 u3 = some res → ∀ (H : Heap) (locs : List Loc) (ls : Array Slot), va_P D classes [(o, .inr (6, [v_o_sha, r_signatures, v_o_ripemd, .ref a_data, v_a_scriptEnd, .ref a_main, v_a_other, v_a_taken, .int u0, .int i_otherHeight, .int i_ops, .int i_ifs, .int i_ifsNotTaken, .int u1, r_layout, .int i_tx, .int i_in, r_coin, .int i_messageIsThere])), (a_data, .inl (cy 0, 14928, .inl u2)), (a_main, .inl (cy 1, 204, .inl u3))] H → va_D A [(o, .inr (6, [v_o_sha, r_signatures, v_o_ripemd, .ref a_data, v_a_scriptEnd, .ref a_main, v_a_other, v_a_taken, .int u0, .int i_otherHeight, .int i_ops, .int i_ifs, .int i_ifsNotTaken, .int u1, r_layout, .int i_tx, .int i_in, r_coin, .int i_messageIsThere])), (a_data, .inl (cy 0, 14928, .inl u2)), (a_main, .inl (cy 1, 204, .inl u3))] → va_S A s.heap H locs → lv_has ls 4 [] → W p l e rm_Ma_changeNumber s m args below meth c H locs 0 0 (MQ below (q_Ma_changeNumber D cy A o v_o_sha r_signatures v_o_ripemd v_a_scriptEnd v_a_other v_a_taken r_layout r_coin a_data a_main i_otherHeight i_ops i_ifs i_ifsNotTaken i_tx i_in i_messageIsThere res) args s 0 0 A) (F0 m 150 ls [.int y0, .ref o])
def I_Ma_changeNumber_169 (p : Program) (l : Launch) (e : Env) (s : State) (m : MethodId) (args : Array Value) (below : List Frame) (meth : Method) (c : Code) (D : va_G) (cy : Nat → ClassId) (A : Nat → Prop) (ad : Nat → Nat) (o : Nat) (v_o_sha : Value) (r_signatures : Value) (v_o_ripemd : Value) (v_a_scriptEnd : Value) (v_a_other : Value) (v_a_taken : Value) (r_layout : Value) (r_coin : Value) (a_data : Nat) (a_main : Nat) (i_otherHeight : Int32) (i_ops : Int32) (i_ifs : Int32) (i_ifsNotTaken : Int32) (i_tx : Int32) (i_in : Int32) (i_messageIsThere : Int32) (k : Int32 → Int32 → Int32 → (Nat → Int32) → (Nat → Int32) → Option (Int32 × Int32 × Int32 × (Nat → Int32) × (Nat → Int32))) : Prop :=
  ∀ (y0 : Int32) (u0 : Int32) (u1 : Int32) (u2 : Nat → Int32) (u3 : Nat → Int32) (res : Int32 × Int32 × Int32 × (Nat → Int32) × (Nat → Int32)), k y0 u0 u1 u2 u3 = some res → ∀ (H : Heap) (locs : List Loc) (ls : Array Slot), va_P D classes [(o, .inr (6, [v_o_sha, r_signatures, v_o_ripemd, .ref a_data, v_a_scriptEnd, .ref a_main, v_a_other, v_a_taken, .int u0, .int i_otherHeight, .int i_ops, .int i_ifs, .int i_ifsNotTaken, .int u1, r_layout, .int i_tx, .int i_in, r_coin, .int i_messageIsThere])), (a_data, .inl (cy 0, 14928, .inl u2)), (a_main, .inl (cy 1, 204, .inl u3))] H → va_D A [(o, .inr (6, [v_o_sha, r_signatures, v_o_ripemd, .ref a_data, v_a_scriptEnd, .ref a_main, v_a_other, v_a_taken, .int u0, .int i_otherHeight, .int i_ops, .int i_ifs, .int i_ifsNotTaken, .int u1, r_layout, .int i_tx, .int i_in, r_coin, .int i_messageIsThere])), (a_data, .inl (cy 0, 14928, .inl u2)), (a_main, .inl (cy 1, 204, .inl u3))] → va_S A s.heap H locs → lv_has ls 4 [] → W p l e rm_Ma_changeNumber s m args below meth c H locs 0 0 (MQ below (q_Ma_changeNumber D cy A o v_o_sha r_signatures v_o_ripemd v_a_scriptEnd v_a_other v_a_taken r_layout r_coin a_data a_main i_otherHeight i_ops i_ifs i_ifsNotTaken i_tx i_in i_messageIsThere res) args s 0 0 A) (F0 m 169 ls [.int y0, .ref o])
def I_Ma_changeNumber_e (p : Program) (l : Launch) (e : Env) (s : State) (m : MethodId) (args : Array Value) (below : List Frame) (meth : Method) (c : Code) (D : va_G) (cy : Nat → ClassId) (A : Nat → Prop) (ad : Nat → Nat) (o : Nat) (v_o_sha : Value) (r_signatures : Value) (v_o_ripemd : Value) (v_a_scriptEnd : Value) (v_a_other : Value) (v_a_taken : Value) (r_layout : Value) (r_coin : Value) (a_data : Nat) (a_main : Nat) (i_otherHeight : Int32) (i_ops : Int32) (i_ifs : Int32) (i_ifsNotTaken : Int32) (i_tx : Int32) (i_in : Int32) (i_messageIsThere : Int32) (k : Int32 → Int32 → Int32 → (Nat → Int32) → (Nat → Int32) → Option (Int32 × Int32 × Int32 × (Nat → Int32) × (Nat → Int32))) : Prop :=
  ∀ (a1 : Int32) (u0 : Int32) (u1 : Int32) (u2 : Nat → Int32) (u3 : Nat → Int32) (res : Int32 × Int32 × Int32 × (Nat → Int32) × (Nat → Int32)), k a1 u0 u1 u2 u3 = some res → ∀ (H : Heap) (locs : List Loc) (ls : Array Slot), va_P D classes [(o, .inr (6, [v_o_sha, r_signatures, v_o_ripemd, .ref a_data, v_a_scriptEnd, .ref a_main, v_a_other, v_a_taken, .int u0, .int i_otherHeight, .int i_ops, .int i_ifs, .int i_ifsNotTaken, .int u1, r_layout, .int i_tx, .int i_in, r_coin, .int i_messageIsThere])), (a_data, .inl (cy 0, 14928, .inl u2)), (a_main, .inl (cy 1, 204, .inl u3))] H → va_D A [(o, .inr (6, [v_o_sha, r_signatures, v_o_ripemd, .ref a_data, v_a_scriptEnd, .ref a_main, v_a_other, v_a_taken, .int u0, .int i_otherHeight, .int i_ops, .int i_ifs, .int i_ifsNotTaken, .int u1, r_layout, .int i_tx, .int i_in, r_coin, .int i_messageIsThere])), (a_data, .inl (cy 0, 14928, .inl u2)), (a_main, .inl (cy 1, 204, .inl u3))] → va_S A s.heap H locs → lv_has ls 4 [(0, .ref o), (1, .int a1)] → W p l e rm_Ma_changeNumber s m args below meth c H locs 0 0 (MQ below (q_Ma_changeNumber D cy A o v_o_sha r_signatures v_o_ripemd v_a_scriptEnd v_a_other v_a_taken r_layout r_coin a_data a_main i_otherHeight i_ops i_ifs i_ifsNotTaken i_tx i_in i_messageIsThere res) args s 0 0 A) (F0 m 0 ls [])
set_option maxHeartbeats 8000000 in
set_option maxRecDepth 100000 in
theorem wb_Ma_changeNumber_150 {p : Program} {l : Launch} {e : Env} {s : State} {m : MethodId} {args : Array Value} {below : List Frame} {meth : Method} {c : Code} {D : va_G} {cy : Nat → ClassId} {A : Nat → Prop} {ad : Nat → Nat} {o : Nat} {v_o_sha : Value} {r_signatures : Value} {v_o_ripemd : Value} {v_a_scriptEnd : Value} {v_a_other : Value} {v_a_taken : Value} {r_layout : Value} {r_coin : Value} {a_data : Nat} {a_main : Nat} {i_otherHeight : Int32} {i_ops : Int32} {i_ifs : Int32} {i_ifsNotTaken : Int32} {i_tx : Int32} {i_in : Int32} {i_messageIsThere : Int32} {fu : Nat} (F : Fx p s m args meth c b_Ma_changeNumber 4 "CoinKeeper$Machine" "changeNumber" (some .boolean) D cy ad A) : I_Ma_changeNumber_150 p l e s m args below meth c D cy A ad o v_o_sha r_signatures v_o_ripemd v_a_scriptEnd v_a_other v_a_taken r_layout r_coin a_data a_main i_otherHeight i_ops i_ifs i_ifsNotTaken i_tx i_in i_messageIsThere (xb_Ma_changeNumber_150 fu i_otherHeight i_ops i_ifs i_ifsNotTaken i_tx i_in i_messageIsThere) := by
  obtain ⟨hx, hb, hr, hml, hown, hts, hlocks, hK, hA, hSt, hnm, hex⟩ := id F
  intro y0 u0 u1 u2 u3 res hf H locs ls hP hD hS hl
  unfold xb_Ma_changeNumber_150 at hf
  obtain ⟨e1, f2, hc, hf⟩ := bdp2 hf
  refine q_av (wr := [(a_data, .inl (cy 0, 14928, .inl u2))]) (va_runV (C := "CoinKeeper$Machine") (As := [.int y0]) (rest := []) ⟨hx, hb, hml, hown, hts⟩ (c_Ma_push l D cy ad fu o v_o_sha r_signatures v_o_ripemd (.ref a_data) v_a_scriptEnd v_a_other v_a_taken r_layout r_coin a_main i_otherHeight i_ops i_ifs i_ifsNotTaken u1 i_tx i_in i_messageIsThere y0 u0 u3 _ hc H.size) ⟨q_cB hts gw_988 gw_6 gw_985 hdc_42 ⟨by decide, by decide⟩, hts _ gw_987, hts _ gs_28⟩ (q_preV (q_pre (hP.sub [0, 2] rfl) (hD.sub [0, 2] (by decide) rfl) hK hSt hS (va_free hD hS hA [0, 2] rfl) _) (va_recv hK (hP.sub [0, 2] rfl) (ci := 6) (q0 := 0) rfl rfl)) rfl rfl hl.1 rfl (lv_room (Nat.le_of_ble_eq_true rfl)) d_Ma_changeNumber_150 ⟨Nat.le_of_ble_eq_true rfl, Nat.le_of_ble_eq_true rfl⟩) hP hD hS hA [0, 2] [1] rfl rfl (by decide) (by decide) (fun H locs hP hD hS => ?_)
  clear hc
  have hP : va_P D classes [(a_data, .inl (cy 0, 14928, .inl u2)), (o, .inr (6, [v_o_sha, r_signatures, v_o_ripemd, .ref a_data, v_a_scriptEnd, .ref a_main, v_a_other, v_a_taken, .int e1, .int i_otherHeight, .int i_ops, .int i_ifs, .int i_ifsNotTaken, .int u1, r_layout, .int i_tx, .int i_in, r_coin, .int i_messageIsThere])), (a_main, .inl (cy 1, 204, .inl f2))] H := hP
  have hD : va_D A [(a_data, .inl (cy 0, 14928, .inl u2)), (o, .inr (6, [v_o_sha, r_signatures, v_o_ripemd, .ref a_data, v_a_scriptEnd, .ref a_main, v_a_other, v_a_taken, .int e1, .int i_otherHeight, .int i_ops, .int i_ifs, .int i_ifsNotTaken, .int u1, r_layout, .int i_tx, .int i_in, r_coin, .int i_messageIsThere])), (a_main, .inl (cy 1, 204, .inl f2))] := hD
  refine lv_iconst (v := 1) hx hb d_Ma_changeNumber_153 (by decide) ?_
  obtain rfl := Option.some.inj hf
  exact q_rz hx hb hr hlocks hK (hP.sub [1, 0, 2] rfl) (hD.sub [1, 0, 2] (by decide) rfl) hS (isb_n (v := 1) (by decide)) d_Ma_changeNumber_154
set_option maxHeartbeats 8000000 in
set_option maxRecDepth 100000 in
theorem wb_Ma_changeNumber_169 {p : Program} {l : Launch} {e : Env} {s : State} {m : MethodId} {args : Array Value} {below : List Frame} {meth : Method} {c : Code} {D : va_G} {cy : Nat → ClassId} {A : Nat → Prop} {ad : Nat → Nat} {o : Nat} {v_o_sha : Value} {r_signatures : Value} {v_o_ripemd : Value} {v_a_scriptEnd : Value} {v_a_other : Value} {v_a_taken : Value} {r_layout : Value} {r_coin : Value} {a_data : Nat} {a_main : Nat} {i_otherHeight : Int32} {i_ops : Int32} {i_ifs : Int32} {i_ifsNotTaken : Int32} {i_tx : Int32} {i_in : Int32} {i_messageIsThere : Int32} {fu : Nat} (F : Fx p s m args meth c b_Ma_changeNumber 4 "CoinKeeper$Machine" "changeNumber" (some .boolean) D cy ad A) : I_Ma_changeNumber_169 p l e s m args below meth c D cy A ad o v_o_sha r_signatures v_o_ripemd v_a_scriptEnd v_a_other v_a_taken r_layout r_coin a_data a_main i_otherHeight i_ops i_ifs i_ifsNotTaken i_tx i_in i_messageIsThere (xb_Ma_changeNumber_169 fu i_otherHeight i_ops i_ifs i_ifsNotTaken i_tx i_in i_messageIsThere) := by
  obtain ⟨hx, hb, hr, hml, hown, hts, hlocks, hK, hA, hSt, hnm, hex⟩ := id F
  intro y0 u0 u1 u2 u3 res hf H locs ls hP hD hS hl
  unfold xb_Ma_changeNumber_169 at hf
  obtain ⟨e1, f2, hc, hf⟩ := bdp2 hf
  refine q_av (wr := [(a_data, .inl (cy 0, 14928, .inl u2))]) (va_runV (C := "CoinKeeper$Machine") (As := [.int y0]) (rest := []) ⟨hx, hb, hml, hown, hts⟩ (c_Ma_push l D cy ad fu o v_o_sha r_signatures v_o_ripemd (.ref a_data) v_a_scriptEnd v_a_other v_a_taken r_layout r_coin a_main i_otherHeight i_ops i_ifs i_ifsNotTaken u1 i_tx i_in i_messageIsThere y0 u0 u3 _ hc H.size) ⟨q_cB hts gw_988 gw_6 gw_985 hdc_42 ⟨by decide, by decide⟩, hts _ gw_987, hts _ gs_28⟩ (q_preV (q_pre (hP.sub [0, 2] rfl) (hD.sub [0, 2] (by decide) rfl) hK hSt hS (va_free hD hS hA [0, 2] rfl) _) (va_recv hK (hP.sub [0, 2] rfl) (ci := 6) (q0 := 0) rfl rfl)) rfl rfl hl.1 rfl (lv_room (Nat.le_of_ble_eq_true rfl)) d_Ma_changeNumber_169 ⟨Nat.le_of_ble_eq_true rfl, Nat.le_of_ble_eq_true rfl⟩) hP hD hS hA [0, 2] [1] rfl rfl (by decide) (by decide) (fun H locs hP hD hS => ?_)
  clear hc
  have hP : va_P D classes [(a_data, .inl (cy 0, 14928, .inl u2)), (o, .inr (6, [v_o_sha, r_signatures, v_o_ripemd, .ref a_data, v_a_scriptEnd, .ref a_main, v_a_other, v_a_taken, .int e1, .int i_otherHeight, .int i_ops, .int i_ifs, .int i_ifsNotTaken, .int u1, r_layout, .int i_tx, .int i_in, r_coin, .int i_messageIsThere])), (a_main, .inl (cy 1, 204, .inl f2))] H := hP
  have hD : va_D A [(a_data, .inl (cy 0, 14928, .inl u2)), (o, .inr (6, [v_o_sha, r_signatures, v_o_ripemd, .ref a_data, v_a_scriptEnd, .ref a_main, v_a_other, v_a_taken, .int e1, .int i_otherHeight, .int i_ops, .int i_ifs, .int i_ifsNotTaken, .int u1, r_layout, .int i_tx, .int i_in, r_coin, .int i_messageIsThere])), (a_main, .inl (cy 1, 204, .inl f2))] := hD
  refine lv_iconst (v := 1) hx hb d_Ma_changeNumber_172 (by decide) ?_
  obtain rfl := Option.some.inj hf
  exact q_rz hx hb hr hlocks hK (hP.sub [1, 0, 2] rfl) (hD.sub [1, 0, 2] (by decide) rfl) hS (isb_n (v := 1) (by decide)) d_Ma_changeNumber_173
set_option maxHeartbeats 8000000 in
set_option maxRecDepth 100000 in
theorem we_Ma_changeNumber {p : Program} {l : Launch} {e : Env} {s : State} {m : MethodId} {args : Array Value} {below : List Frame} {meth : Method} {c : Code} {D : va_G} {cy : Nat → ClassId} {A : Nat → Prop} {ad : Nat → Nat} {o : Nat} {v_o_sha : Value} {r_signatures : Value} {v_o_ripemd : Value} {v_a_scriptEnd : Value} {v_a_other : Value} {v_a_taken : Value} {r_layout : Value} {r_coin : Value} {a_data : Nat} {a_main : Nat} {i_otherHeight : Int32} {i_ops : Int32} {i_ifs : Int32} {i_ifsNotTaken : Int32} {i_tx : Int32} {i_in : Int32} {i_messageIsThere : Int32} {fu : Nat} (F : Fx p s m args meth c b_Ma_changeNumber 4 "CoinKeeper$Machine" "changeNumber" (some .boolean) D cy ad A) : I_Ma_changeNumber_e p l e s m args below meth c D cy A ad o v_o_sha r_signatures v_o_ripemd v_a_scriptEnd v_a_other v_a_taken r_layout r_coin a_data a_main i_otherHeight i_ops i_ifs i_ifsNotTaken i_tx i_in i_messageIsThere (x_Ma_changeNumber fu i_otherHeight i_ops i_ifs i_ifsNotTaken i_tx i_in i_messageIsThere) := by
  obtain ⟨hx, hb, hr, hml, hown, hts, hlocks, hK, hA, hSt, hnm, hex⟩ := id F
  intro a1 u0 u1 u2 u3 res hf H locs ls hP hD hS hl
  unfold x_Ma_changeNumber at hf
  refine lv_aload_n hx hb d_Ma_changeNumber_0 rfl (lv_at hl 0 rfl) ?_
  refine va_get (D := D) (ci := 6) (v := .int u0) (C := "CoinKeeper$Machine") (T := F_6) (N := 19) hx hb hts i_6 hown hK hP 0 rfl rfl 8 (by decide) (hts _ gw_212) (fun _ h9 => h9) rfl d_Ma_changeNumber_1 ?_
  refine lv_iconst (v := 1) hx hb d_Ma_changeNumber_4 (by decide) ?_
  refine lv_icmp_lt (tgt := 26) hx hb d_Ma_changeNumber_5 (by decide) (fun cx => ?_) (fun cx => ?_)
  · have hf := ifp cx hf
    refine lv_iconst (v := 0) hx hb d_Ma_changeNumber_26 (by decide) ?_
    obtain rfl := Option.some.inj hf
    exact q_rz hx hb hr hlocks hK hP hD hS (isb_n (v := 0) (by decide)) d_Ma_changeNumber_27
  · have hf := ifn cx hf
    refine lv_aload_n hx hb d_Ma_changeNumber_8 rfl (lv_at hl 0 rfl) ?_
    refine lv_aload_n hx hb d_Ma_changeNumber_9 rfl (lv_at hl 0 rfl) ?_
    refine va_get (D := D) (ci := 6) (v := .ref a_main) (C := "CoinKeeper$Machine") (T := F_6) (N := 19) hx hb hts i_6 hown hK hP 0 rfl rfl 5 (by decide) (hts _ gw_209) (fun _ h9 => h9) rfl d_Ma_changeNumber_10 ?_
    refine lv_aload_n hx hb d_Ma_changeNumber_13 rfl (lv_at hl 0 rfl) ?_
    refine va_get (D := D) (ci := 6) (v := .int u0) (C := "CoinKeeper$Machine") (T := F_6) (N := 19) hx hb hts i_6 hown hK hP 0 rfl rfl 8 (by decide) (hts _ gw_212) (fun _ h9 => h9) rfl d_Ma_changeNumber_14 ?_
    refine lv_iconst (v := 1) hx hb d_Ma_changeNumber_17 (by decide) ?_
    refine lv_isub hx hb d_Ma_changeNumber_18 ?_
    refine lv_topi (fun v1 ev => ?_)
    have hf := bn ev hf
    clear ev
    obtain ⟨hg, hf⟩ := gdp hf
    refine va_iald hx hb hK hP 2 1 rfl rfl (inb_in hg) d_Ma_changeNumber_19 ?_
    refine lv_topi (fun v2 ev => ?_)
    have hf := bn ev hf
    clear ev
    obtain ⟨v3, hc, hf⟩ := bdp1 hf
    refine q_ai (wr := [(a_data, .inl (cy 0, 14928, .inl u2)), (a_main, .inl (cy 1, 204, .inl u3))]) (va_runV (C := "CoinKeeper$Machine") (As := [.int v2]) (rest := []) ⟨hx, hb, hml, hown, hts⟩ (c_Ma_isNumber l D cy ad fu o v_o_sha r_signatures v_o_ripemd (.ref a_data) v_a_scriptEnd (.ref a_main) v_a_other v_a_taken r_layout r_coin u0 i_otherHeight i_ops i_ifs i_ifsNotTaken u1 i_tx i_in i_messageIsThere v2 _ hc H.size) ⟨q_cB hts gw_1014 gw_6 gw_1011 hdc_44 ⟨by decide, by decide⟩, hts _ gw_1013, hts _ gs_33⟩ (q_preV (q_pre (hP.sub [0] rfl) (hD.sub [0] (by decide) rfl) hK hSt hS (va_free hD hS hA [0] rfl) _) (va_recv hK (hP.sub [0] rfl) (ci := 6) (q0 := 0) rfl rfl)) rfl rfl hl.1 rfl (lv_room (Nat.le_of_ble_eq_true rfl)) d_Ma_changeNumber_20 ⟨Nat.le_of_ble_eq_true rfl, Nat.le_of_ble_eq_true rfl⟩) hP hD hS hA [0] [1, 2] rfl rfl (by decide) (by decide) (fun H locs hP hD hS => ?_)
    clear hc
    have hP : va_P D classes [(a_data, .inl (cy 0, 14928, .inl u2)), (a_main, .inl (cy 1, 204, .inl u3)), (o, .inr (6, [v_o_sha, r_signatures, v_o_ripemd, .ref a_data, v_a_scriptEnd, .ref a_main, v_a_other, v_a_taken, .int u0, .int i_otherHeight, .int i_ops, .int i_ifs, .int i_ifsNotTaken, .int u1, r_layout, .int i_tx, .int i_in, r_coin, .int i_messageIsThere]))] H := hP
    have hD : va_D A [(a_data, .inl (cy 0, 14928, .inl u2)), (a_main, .inl (cy 1, 204, .inl u3)), (o, .inr (6, [v_o_sha, r_signatures, v_o_ripemd, .ref a_data, v_a_scriptEnd, .ref a_main, v_a_other, v_a_taken, .int u0, .int i_otherHeight, .int i_ops, .int i_ifs, .int i_ifsNotTaken, .int u1, r_layout, .int i_tx, .int i_in, r_coin, .int i_messageIsThere]))] := hD
    refine lv_if_ne (tgt := 28) hx hb d_Ma_changeNumber_23 (by decide) (fun cx => ?_) (fun cx => ?_)
    · have hf := ifn cx hf
      refine lv_aload_n hx hb d_Ma_changeNumber_28 rfl (lv_at hl 0 rfl) ?_
      refine lv_dup hx hb d_Ma_changeNumber_29 rfl ?_
      refine va_get (D := D) (ci := 6) (v := .int u0) (C := "CoinKeeper$Machine") (T := F_6) (N := 19) hx hb hts i_6 hown hK hP 2 rfl rfl 8 (by decide) (hts _ gw_212) (fun _ h9 => h9) rfl d_Ma_changeNumber_30 ?_
      refine lv_iconst (v := 1) hx hb d_Ma_changeNumber_33 (by decide) ?_
      refine lv_isub hx hb d_Ma_changeNumber_34 ?_
      refine lv_topi (fun v4 ev => ?_)
      have hf := bn ev hf
      clear ev
      refine va_put (D := D) (ci := 6) (v := .int v4) (ty := .int) (C := "CoinKeeper$Machine") (T := F_6) (N := 19) hx hb hts i_6 t_6 t_6_ok n_6 hown hK hP hD hS 2 rfl rfl 8 (by decide) (hts _ gw_212) (fun _ h9 => h9) rfl (by decide +kernel) rfl rfl (Nat.le_of_ble_eq_true rfl) d_Ma_changeNumber_35 (fun H locs hP hD hS => ?_)
      have hP : va_P D classes [(a_data, .inl (cy 0, 14928, .inl u2)), (a_main, .inl (cy 1, 204, .inl u3)), (o, .inr (6, [v_o_sha, r_signatures, v_o_ripemd, .ref a_data, v_a_scriptEnd, .ref a_main, v_a_other, v_a_taken, .int v4, .int i_otherHeight, .int i_ops, .int i_ifs, .int i_ifsNotTaken, .int u1, r_layout, .int i_tx, .int i_in, r_coin, .int i_messageIsThere]))] H := hP
      have hD : va_D A [(a_data, .inl (cy 0, 14928, .inl u2)), (a_main, .inl (cy 1, 204, .inl u3)), (o, .inr (6, [v_o_sha, r_signatures, v_o_ripemd, .ref a_data, v_a_scriptEnd, .ref a_main, v_a_other, v_a_taken, .int v4, .int i_otherHeight, .int i_ops, .int i_ifs, .int i_ifsNotTaken, .int u1, r_layout, .int i_tx, .int i_in, r_coin, .int i_messageIsThere]))] := hD
      refine lv_aload_n hx hb d_Ma_changeNumber_38 rfl (lv_at hl 0 rfl) ?_
      refine lv_aload_n hx hb d_Ma_changeNumber_39 rfl (lv_at hl 0 rfl) ?_
      refine va_get (D := D) (ci := 6) (v := .ref a_main) (C := "CoinKeeper$Machine") (T := F_6) (N := 19) hx hb hts i_6 hown hK hP 2 rfl rfl 5 (by decide) (hts _ gw_209) (fun _ h9 => h9) rfl d_Ma_changeNumber_40 ?_
      refine lv_aload_n hx hb d_Ma_changeNumber_43 rfl (lv_at hl 0 rfl) ?_
      refine va_get (D := D) (ci := 6) (v := .int v4) (C := "CoinKeeper$Machine") (T := F_6) (N := 19) hx hb hts i_6 hown hK hP 2 rfl rfl 8 (by decide) (hts _ gw_212) (fun _ h9 => h9) rfl d_Ma_changeNumber_44 ?_
      obtain ⟨hg, hf⟩ := gdp hf
      refine va_iald hx hb hK hP 1 1 rfl rfl (inb_in hg) d_Ma_changeNumber_47 ?_
      refine lv_topi (fun v5 ev => ?_)
      have hf := bn ev hf
      clear ev
      obtain ⟨v6, hc, hf⟩ := bdp1 hf
      refine q_al (wr := [(a_main, .inl (cy 1, 204, .inl u3))]) (va_runV (C := "CoinKeeper$Machine") (As := [.int v5]) (rest := []) ⟨hx, hb, hml, hown, hts⟩ (c_Ma_numberOf l D cy ad fu o v_o_sha r_signatures v_o_ripemd v_a_scriptEnd (.ref a_main) v_a_other v_a_taken r_layout r_coin a_data v4 i_otherHeight i_ops i_ifs i_ifsNotTaken u1 i_tx i_in i_messageIsThere u2 v5 _ hc H.size) ⟨q_cB hts gw_1018 gw_6 gw_1015 hdc_45 ⟨by decide, by decide⟩, hts _ gw_1017, hts _ gs_34⟩ (q_preV (q_pre (hP.sub [2, 0] rfl) (hD.sub [2, 0] (by decide) rfl) hK hSt hS (va_free hD hS hA [2, 0] rfl) _) (va_recv hK (hP.sub [2, 0] rfl) (ci := 6) (q0 := 0) rfl rfl)) rfl rfl hl.1 rfl (lv_room (Nat.le_of_ble_eq_true rfl)) d_Ma_changeNumber_48 ⟨Nat.le_of_ble_eq_true rfl, Nat.le_of_ble_eq_true rfl⟩) hP hD hS hA [2, 0] [1] rfl rfl (by decide) (by decide) (fun H locs hP hD hS => ?_)
      clear hc
      have hP : va_P D classes [(a_main, .inl (cy 1, 204, .inl u3)), (o, .inr (6, [v_o_sha, r_signatures, v_o_ripemd, .ref a_data, v_a_scriptEnd, .ref a_main, v_a_other, v_a_taken, .int v4, .int i_otherHeight, .int i_ops, .int i_ifs, .int i_ifsNotTaken, .int u1, r_layout, .int i_tx, .int i_in, r_coin, .int i_messageIsThere])), (a_data, .inl (cy 0, 14928, .inl u2))] H := hP
      have hD : va_D A [(a_main, .inl (cy 1, 204, .inl u3)), (o, .inr (6, [v_o_sha, r_signatures, v_o_ripemd, .ref a_data, v_a_scriptEnd, .ref a_main, v_a_other, v_a_taken, .int v4, .int i_otherHeight, .int i_ops, .int i_ifs, .int i_ifsNotTaken, .int u1, r_layout, .int i_tx, .int i_in, r_coin, .int i_messageIsThere])), (a_data, .inl (cy 0, 14928, .inl u2))] := hD
      refine lv_lstore_n (lv' := [(2, .long v6), (0, .ref o), (1, .int a1)]) hx hb d_Ma_changeNumber_51 rfl hl (by decide) rfl (fun ls hl => ?_)
      refine lv_iload_n hx hb d_Ma_changeNumber_52 rfl (lv_at hl 2 rfl) ?_
      by_cases cx : a1 = 139
      · have hf := ifp cx hf
        refine lv_tableIn (tgt := 100) (off := 47) hx hb d_Ma_changeNumber_53 (by rw [cx]; decide) (by rw [cx]; decide) (by rw [cx]; decide +kernel) (by decide) ?_
        refine lv_aload_n hx hb d_Ma_changeNumber_100 rfl (lv_at hl 1 rfl) ?_
        refine lv_lload_n hx hb d_Ma_changeNumber_101 rfl (lv_at hl 0 rfl) ?_
        refine lv_lconst (v := 1) hx hb d_Ma_changeNumber_102 (by decide) ?_
        refine lv_ladd hx hb d_Ma_changeNumber_103 ?_
        refine lv_topl (fun v7 ev => ?_)
        have hf := bn ev hf
        clear ev
        obtain ⟨e8, e9, f10, f11, hc, hf⟩ := bdp4 hf
        refine q_av (wr := []) (va_runV (C := "CoinKeeper$Machine") (As := [.long v7]) (rest := []) ⟨hx, hb, hml, hown, hts⟩ (c_Ma_pushNumber l D cy ad fu o v_o_sha r_signatures v_o_ripemd v_a_scriptEnd v_a_other v_a_taken r_layout r_coin a_data a_main i_otherHeight i_ops i_ifs i_ifsNotTaken i_tx i_in i_messageIsThere v7 v4 u1 u2 u3 _ hc H.size) ⟨q_cB hts gw_1202 gw_6 gw_1199 hdc_47 ⟨by decide, by decide⟩, hts _ gw_1201, hts _ gs_49⟩ (q_preV (q_pre (hP.sub [1, 2, 0] rfl) (hD.sub [1, 2, 0] (by decide) rfl) hK hSt hS (va_free hD hS hA [1, 2, 0] rfl) _) (va_recv hK (hP.sub [1, 2, 0] rfl) (ci := 6) (q0 := 0) rfl rfl)) rfl rfl hl.1 rfl (lv_room (Nat.le_of_ble_eq_true rfl)) d_Ma_changeNumber_104 ⟨Nat.le_of_ble_eq_true rfl, Nat.le_of_ble_eq_true rfl⟩) hP hD hS hA [1, 2, 0] [] rfl rfl (by decide) (by decide) (fun H locs hP hD hS => ?_)
        clear hc
        have hP : va_P D classes [(o, .inr (6, [v_o_sha, r_signatures, v_o_ripemd, .ref a_data, v_a_scriptEnd, .ref a_main, v_a_other, v_a_taken, .int e8, .int i_otherHeight, .int i_ops, .int i_ifs, .int i_ifsNotTaken, .int e9, r_layout, .int i_tx, .int i_in, r_coin, .int i_messageIsThere])), (a_data, .inl (cy 0, 14928, .inl f10)), (a_main, .inl (cy 1, 204, .inl f11))] H := hP
        have hD : va_D A [(o, .inr (6, [v_o_sha, r_signatures, v_o_ripemd, .ref a_data, v_a_scriptEnd, .ref a_main, v_a_other, v_a_taken, .int e8, .int i_otherHeight, .int i_ops, .int i_ifs, .int i_ifsNotTaken, .int e9, r_layout, .int i_tx, .int i_in, r_coin, .int i_messageIsThere])), (a_data, .inl (cy 0, 14928, .inl f10)), (a_main, .inl (cy 1, 204, .inl f11))] := hD
        refine lv_iconst (v := 1) hx hb d_Ma_changeNumber_107 (by decide) ?_
        obtain rfl := Option.some.inj hf
        exact q_rz hx hb hr hlocks hK hP hD hS (isb_n (v := 1) (by decide)) d_Ma_changeNumber_108
      · have hf := ifn cx hf
        have cn_0 := lv_neT (a := 139) cx (by decide)
        clear cx
        by_cases cx : a1 = 140
        · have hf := ifp cx hf
          refine lv_tableIn (tgt := 109) (off := 56) hx hb d_Ma_changeNumber_53 (by rw [cx]; decide) (by rw [cx]; decide) (by rw [cx]; decide +kernel) (by decide) ?_
          refine lv_aload_n hx hb d_Ma_changeNumber_109 rfl (lv_at hl 1 rfl) ?_
          refine lv_lload_n hx hb d_Ma_changeNumber_110 rfl (lv_at hl 0 rfl) ?_
          refine lv_lconst (v := 1) hx hb d_Ma_changeNumber_111 (by decide) ?_
          refine lv_lsub hx hb d_Ma_changeNumber_112 ?_
          refine lv_topl (fun v12 ev => ?_)
          have hf := bn ev hf
          clear ev
          obtain ⟨e13, e14, f15, f16, hc, hf⟩ := bdp4 hf
          refine q_av (wr := []) (va_runV (C := "CoinKeeper$Machine") (As := [.long v12]) (rest := []) ⟨hx, hb, hml, hown, hts⟩ (c_Ma_pushNumber l D cy ad fu o v_o_sha r_signatures v_o_ripemd v_a_scriptEnd v_a_other v_a_taken r_layout r_coin a_data a_main i_otherHeight i_ops i_ifs i_ifsNotTaken i_tx i_in i_messageIsThere v12 v4 u1 u2 u3 _ hc H.size) ⟨q_cB hts gw_1202 gw_6 gw_1199 hdc_47 ⟨by decide, by decide⟩, hts _ gw_1201, hts _ gs_49⟩ (q_preV (q_pre (hP.sub [1, 2, 0] rfl) (hD.sub [1, 2, 0] (by decide) rfl) hK hSt hS (va_free hD hS hA [1, 2, 0] rfl) _) (va_recv hK (hP.sub [1, 2, 0] rfl) (ci := 6) (q0 := 0) rfl rfl)) rfl rfl hl.1 rfl (lv_room (Nat.le_of_ble_eq_true rfl)) d_Ma_changeNumber_113 ⟨Nat.le_of_ble_eq_true rfl, Nat.le_of_ble_eq_true rfl⟩) hP hD hS hA [1, 2, 0] [] rfl rfl (by decide) (by decide) (fun H locs hP hD hS => ?_)
          clear hc
          have hP : va_P D classes [(o, .inr (6, [v_o_sha, r_signatures, v_o_ripemd, .ref a_data, v_a_scriptEnd, .ref a_main, v_a_other, v_a_taken, .int e13, .int i_otherHeight, .int i_ops, .int i_ifs, .int i_ifsNotTaken, .int e14, r_layout, .int i_tx, .int i_in, r_coin, .int i_messageIsThere])), (a_data, .inl (cy 0, 14928, .inl f15)), (a_main, .inl (cy 1, 204, .inl f16))] H := hP
          have hD : va_D A [(o, .inr (6, [v_o_sha, r_signatures, v_o_ripemd, .ref a_data, v_a_scriptEnd, .ref a_main, v_a_other, v_a_taken, .int e13, .int i_otherHeight, .int i_ops, .int i_ifs, .int i_ifsNotTaken, .int e14, r_layout, .int i_tx, .int i_in, r_coin, .int i_messageIsThere])), (a_data, .inl (cy 0, 14928, .inl f15)), (a_main, .inl (cy 1, 204, .inl f16))] := hD
          refine lv_iconst (v := 1) hx hb d_Ma_changeNumber_116 (by decide) ?_
          obtain rfl := Option.some.inj hf
          exact q_rz hx hb hr hlocks hK hP hD hS (isb_n (v := 1) (by decide)) d_Ma_changeNumber_117
        · have hf := ifn cx hf
          have cn_1 := lv_neT (a := 140) cx (by decide)
          clear cx
          by_cases cx : a1 = 141
          · have hf := ifp cx hf
            refine lv_tableIn (tgt := 174) (off := 121) hx hb d_Ma_changeNumber_53 (by rw [cx]; decide) (by rw [cx]; decide) (by rw [cx]; decide +kernel) (by decide) ?_
            refine lv_iconst (v := 0) hx hb d_Ma_changeNumber_174 (by decide) ?_
            obtain rfl := Option.some.inj hf
            exact q_rz hx hb hr hlocks hK (hP.sub [1, 2, 0] rfl) (hD.sub [1, 2, 0] (by decide) rfl) hS (isb_n (v := 0) (by decide)) d_Ma_changeNumber_175
          · have hf := ifn cx hf
            have cn_2 := lv_neT (a := 141) cx (by decide)
            clear cx
            by_cases cx : a1 = 142
            · have hf := ifp cx hf
              refine lv_tableIn (tgt := 174) (off := 121) hx hb d_Ma_changeNumber_53 (by rw [cx]; decide) (by rw [cx]; decide) (by rw [cx]; decide +kernel) (by decide) ?_
              refine lv_iconst (v := 0) hx hb d_Ma_changeNumber_174 (by decide) ?_
              obtain rfl := Option.some.inj hf
              exact q_rz hx hb hr hlocks hK (hP.sub [1, 2, 0] rfl) (hD.sub [1, 2, 0] (by decide) rfl) hS (isb_n (v := 0) (by decide)) d_Ma_changeNumber_175
            · have hf := ifn cx hf
              have cn_3 := lv_neT (a := 142) cx (by decide)
              clear cx
              by_cases cx : a1 = 143
              · have hf := ifp cx hf
                refine lv_tableIn (tgt := 118) (off := 65) hx hb d_Ma_changeNumber_53 (by rw [cx]; decide) (by rw [cx]; decide) (by rw [cx]; decide +kernel) (by decide) ?_
                refine lv_aload_n hx hb d_Ma_changeNumber_118 rfl (lv_at hl 1 rfl) ?_
                refine lv_lload_n hx hb d_Ma_changeNumber_119 rfl (lv_at hl 0 rfl) ?_
                refine lv_lneg hx hb d_Ma_changeNumber_120 ?_
                refine lv_topl (fun v17 ev => ?_)
                have hf := bn ev hf
                clear ev
                obtain ⟨e18, e19, f20, f21, hc, hf⟩ := bdp4 hf
                refine q_av (wr := []) (va_runV (C := "CoinKeeper$Machine") (As := [.long v17]) (rest := []) ⟨hx, hb, hml, hown, hts⟩ (c_Ma_pushNumber l D cy ad fu o v_o_sha r_signatures v_o_ripemd v_a_scriptEnd v_a_other v_a_taken r_layout r_coin a_data a_main i_otherHeight i_ops i_ifs i_ifsNotTaken i_tx i_in i_messageIsThere v17 v4 u1 u2 u3 _ hc H.size) ⟨q_cB hts gw_1202 gw_6 gw_1199 hdc_47 ⟨by decide, by decide⟩, hts _ gw_1201, hts _ gs_49⟩ (q_preV (q_pre (hP.sub [1, 2, 0] rfl) (hD.sub [1, 2, 0] (by decide) rfl) hK hSt hS (va_free hD hS hA [1, 2, 0] rfl) _) (va_recv hK (hP.sub [1, 2, 0] rfl) (ci := 6) (q0 := 0) rfl rfl)) rfl rfl hl.1 rfl (lv_room (Nat.le_of_ble_eq_true rfl)) d_Ma_changeNumber_121 ⟨Nat.le_of_ble_eq_true rfl, Nat.le_of_ble_eq_true rfl⟩) hP hD hS hA [1, 2, 0] [] rfl rfl (by decide) (by decide) (fun H locs hP hD hS => ?_)
                clear hc
                have hP : va_P D classes [(o, .inr (6, [v_o_sha, r_signatures, v_o_ripemd, .ref a_data, v_a_scriptEnd, .ref a_main, v_a_other, v_a_taken, .int e18, .int i_otherHeight, .int i_ops, .int i_ifs, .int i_ifsNotTaken, .int e19, r_layout, .int i_tx, .int i_in, r_coin, .int i_messageIsThere])), (a_data, .inl (cy 0, 14928, .inl f20)), (a_main, .inl (cy 1, 204, .inl f21))] H := hP
                have hD : va_D A [(o, .inr (6, [v_o_sha, r_signatures, v_o_ripemd, .ref a_data, v_a_scriptEnd, .ref a_main, v_a_other, v_a_taken, .int e18, .int i_otherHeight, .int i_ops, .int i_ifs, .int i_ifsNotTaken, .int e19, r_layout, .int i_tx, .int i_in, r_coin, .int i_messageIsThere])), (a_data, .inl (cy 0, 14928, .inl f20)), (a_main, .inl (cy 1, 204, .inl f21))] := hD
                refine lv_iconst (v := 1) hx hb d_Ma_changeNumber_124 (by decide) ?_
                obtain rfl := Option.some.inj hf
                exact q_rz hx hb hr hlocks hK hP hD hS (isb_n (v := 1) (by decide)) d_Ma_changeNumber_125
              · have hf := ifn cx hf
                have cn_4 := lv_neT (a := 143) cx (by decide)
                clear cx
                by_cases cx : a1 = 144
                · have hf := ifp cx hf
                  refine lv_tableIn (tgt := 126) (off := 73) hx hb d_Ma_changeNumber_53 (by rw [cx]; decide) (by rw [cx]; decide) (by rw [cx]; decide +kernel) (by decide) ?_
                  refine lv_aload_n hx hb d_Ma_changeNumber_126 rfl (lv_at hl 1 rfl) ?_
                  refine lv_lload_n hx hb d_Ma_changeNumber_127 rfl (lv_at hl 0 rfl) ?_
                  refine va_mabs_long (rest := [.ref o]) hx hb (hml.trans hl.1.symm) hown (hts _ gw_1203) (hts _ gw_1204) (hts _ gw_15) (hts _ gw_1205) (by decide) (Nat.le_of_ble_eq_true rfl) (Nat.zero_le _) (Nat.zero_le _) d_Ma_changeNumber_128 ?_
                  refine lv_topl (fun v22 ev => ?_)
                  have hf := bn ev hf
                  clear ev
                  obtain ⟨e23, e24, f25, f26, hc, hf⟩ := bdp4 hf
                  refine q_av (wr := []) (va_runV (C := "CoinKeeper$Machine") (As := [.long v22]) (rest := []) ⟨hx, hb, hml, hown, hts⟩ (c_Ma_pushNumber l D cy ad fu o v_o_sha r_signatures v_o_ripemd v_a_scriptEnd v_a_other v_a_taken r_layout r_coin a_data a_main i_otherHeight i_ops i_ifs i_ifsNotTaken i_tx i_in i_messageIsThere v22 v4 u1 u2 u3 _ hc H.size) ⟨q_cB hts gw_1202 gw_6 gw_1199 hdc_47 ⟨by decide, by decide⟩, hts _ gw_1201, hts _ gs_49⟩ (q_preV (q_pre (hP.sub [1, 2, 0] rfl) (hD.sub [1, 2, 0] (by decide) rfl) hK hSt hS (va_free hD hS hA [1, 2, 0] rfl) _) (va_recv hK (hP.sub [1, 2, 0] rfl) (ci := 6) (q0 := 0) rfl rfl)) rfl rfl hl.1 rfl (lv_room (Nat.le_of_ble_eq_true rfl)) d_Ma_changeNumber_131 ⟨Nat.le_of_ble_eq_true rfl, Nat.le_of_ble_eq_true rfl⟩) hP hD hS hA [1, 2, 0] [] rfl rfl (by decide) (by decide) (fun H locs hP hD hS => ?_)
                  clear hc
                  have hP : va_P D classes [(o, .inr (6, [v_o_sha, r_signatures, v_o_ripemd, .ref a_data, v_a_scriptEnd, .ref a_main, v_a_other, v_a_taken, .int e23, .int i_otherHeight, .int i_ops, .int i_ifs, .int i_ifsNotTaken, .int e24, r_layout, .int i_tx, .int i_in, r_coin, .int i_messageIsThere])), (a_data, .inl (cy 0, 14928, .inl f25)), (a_main, .inl (cy 1, 204, .inl f26))] H := hP
                  have hD : va_D A [(o, .inr (6, [v_o_sha, r_signatures, v_o_ripemd, .ref a_data, v_a_scriptEnd, .ref a_main, v_a_other, v_a_taken, .int e23, .int i_otherHeight, .int i_ops, .int i_ifs, .int i_ifsNotTaken, .int e24, r_layout, .int i_tx, .int i_in, r_coin, .int i_messageIsThere])), (a_data, .inl (cy 0, 14928, .inl f25)), (a_main, .inl (cy 1, 204, .inl f26))] := hD
                  refine lv_iconst (v := 1) hx hb d_Ma_changeNumber_134 (by decide) ?_
                  obtain rfl := Option.some.inj hf
                  exact q_rz hx hb hr hlocks hK hP hD hS (isb_n (v := 1) (by decide)) d_Ma_changeNumber_135
                · have hf := ifn cx hf
                  have cn_5 := lv_neT (a := 144) cx (by decide)
                  clear cx
                  by_cases cx : a1 = 145
                  · have hf := ifp cx hf
                    refine lv_tableIn (tgt := 136) (off := 83) hx hb d_Ma_changeNumber_53 (by rw [cx]; decide) (by rw [cx]; decide) (by rw [cx]; decide +kernel) (by decide) ?_
                    refine lv_aload_n hx hb d_Ma_changeNumber_136 rfl (lv_at hl 1 rfl) ?_
                    refine lv_lload_n hx hb d_Ma_changeNumber_137 rfl (lv_at hl 0 rfl) ?_
                    refine lv_lconst (v := 0) hx hb d_Ma_changeNumber_138 (by decide) ?_
                    refine W.lcmp hx hb d_Ma_changeNumber_139 ?_
                    refine lv_if_ne (tgt := 149) hx hb d_Ma_changeNumber_140 (by decide) (fun cx => ?_) (fun cx => ?_)
                    · have hf := ifn cx hf
                      refine lv_iconst (v := 0) hx hb d_Ma_changeNumber_149 (by decide) ?_
                      exact wb_Ma_changeNumber_150 (fu := fu) F _ _ _ _ _ _ hf _ _ _ (hP.sub (ws' := [(o, .inr (6, [v_o_sha, r_signatures, v_o_ripemd, .ref a_data, v_a_scriptEnd, .ref a_main, v_a_other, v_a_taken, .int v4, .int i_otherHeight, .int i_ops, .int i_ifs, .int i_ifsNotTaken, .int u1, r_layout, .int i_tx, .int i_in, r_coin, .int i_messageIsThere])), (a_data, .inl (cy 0, 14928, .inl u2)), (a_main, .inl (cy 1, 204, .inl u3))]) [1, 2, 0] rfl) (hD.sub (ws' := [(o, .inr (6, [v_o_sha, r_signatures, v_o_ripemd, .ref a_data, v_a_scriptEnd, .ref a_main, v_a_other, v_a_taken, .int v4, .int i_otherHeight, .int i_ops, .int i_ifs, .int i_ifsNotTaken, .int u1, r_layout, .int i_tx, .int i_in, r_coin, .int i_messageIsThere])), (a_data, .inl (cy 0, 14928, .inl u2)), (a_main, .inl (cy 1, 204, .inl u3))]) [1, 2, 0] (by decide) rfl) hS (lv_sub hl [] rfl)
                    · have hf := ifp cx hf
                      refine lv_sipush (v := 8449) hx hb d_Ma_changeNumber_143 (by decide) ?_
                      refine lv_goto (tgt := 150) hx hb d_Ma_changeNumber_146 (by decide) ?_
                      exact wb_Ma_changeNumber_150 (fu := fu) F _ _ _ _ _ _ hf _ _ _ (hP.sub (ws' := [(o, .inr (6, [v_o_sha, r_signatures, v_o_ripemd, .ref a_data, v_a_scriptEnd, .ref a_main, v_a_other, v_a_taken, .int v4, .int i_otherHeight, .int i_ops, .int i_ifs, .int i_ifsNotTaken, .int u1, r_layout, .int i_tx, .int i_in, r_coin, .int i_messageIsThere])), (a_data, .inl (cy 0, 14928, .inl u2)), (a_main, .inl (cy 1, 204, .inl u3))]) [1, 2, 0] rfl) (hD.sub (ws' := [(o, .inr (6, [v_o_sha, r_signatures, v_o_ripemd, .ref a_data, v_a_scriptEnd, .ref a_main, v_a_other, v_a_taken, .int v4, .int i_otherHeight, .int i_ops, .int i_ifs, .int i_ifsNotTaken, .int u1, r_layout, .int i_tx, .int i_in, r_coin, .int i_messageIsThere])), (a_data, .inl (cy 0, 14928, .inl u2)), (a_main, .inl (cy 1, 204, .inl u3))]) [1, 2, 0] (by decide) rfl) hS (lv_sub hl [] rfl)
                  · have hf := ifn cx hf
                    have cn_6 := lv_neT (a := 145) cx (by decide)
                    clear cx
                    by_cases cx : a1 = 146
                    · have hf := ifp cx hf
                      refine lv_tableIn (tgt := 155) (off := 102) hx hb d_Ma_changeNumber_53 (by rw [cx]; decide) (by rw [cx]; decide) (by rw [cx]; decide +kernel) (by decide) ?_
                      refine lv_aload_n hx hb d_Ma_changeNumber_155 rfl (lv_at hl 1 rfl) ?_
                      refine lv_lload_n hx hb d_Ma_changeNumber_156 rfl (lv_at hl 0 rfl) ?_
                      refine lv_lconst (v := 0) hx hb d_Ma_changeNumber_157 (by decide) ?_
                      refine W.lcmp hx hb d_Ma_changeNumber_158 ?_
                      refine lv_if_eq (tgt := 168) hx hb d_Ma_changeNumber_159 (by decide) (fun cx => ?_) (fun cx => ?_)
                      · have hf := ifp cx hf
                        refine lv_iconst (v := 0) hx hb d_Ma_changeNumber_168 (by decide) ?_
                        exact wb_Ma_changeNumber_169 (fu := fu) F _ _ _ _ _ _ hf _ _ _ (hP.sub (ws' := [(o, .inr (6, [v_o_sha, r_signatures, v_o_ripemd, .ref a_data, v_a_scriptEnd, .ref a_main, v_a_other, v_a_taken, .int v4, .int i_otherHeight, .int i_ops, .int i_ifs, .int i_ifsNotTaken, .int u1, r_layout, .int i_tx, .int i_in, r_coin, .int i_messageIsThere])), (a_data, .inl (cy 0, 14928, .inl u2)), (a_main, .inl (cy 1, 204, .inl u3))]) [1, 2, 0] rfl) (hD.sub (ws' := [(o, .inr (6, [v_o_sha, r_signatures, v_o_ripemd, .ref a_data, v_a_scriptEnd, .ref a_main, v_a_other, v_a_taken, .int v4, .int i_otherHeight, .int i_ops, .int i_ifs, .int i_ifsNotTaken, .int u1, r_layout, .int i_tx, .int i_in, r_coin, .int i_messageIsThere])), (a_data, .inl (cy 0, 14928, .inl u2)), (a_main, .inl (cy 1, 204, .inl u3))]) [1, 2, 0] (by decide) rfl) hS (lv_sub hl [] rfl)
                      · have hf := ifn cx hf
                        refine lv_sipush (v := 8449) hx hb d_Ma_changeNumber_162 (by decide) ?_
                        refine lv_goto (tgt := 169) hx hb d_Ma_changeNumber_165 (by decide) ?_
                        exact wb_Ma_changeNumber_169 (fu := fu) F _ _ _ _ _ _ hf _ _ _ (hP.sub (ws' := [(o, .inr (6, [v_o_sha, r_signatures, v_o_ripemd, .ref a_data, v_a_scriptEnd, .ref a_main, v_a_other, v_a_taken, .int v4, .int i_otherHeight, .int i_ops, .int i_ifs, .int i_ifsNotTaken, .int u1, r_layout, .int i_tx, .int i_in, r_coin, .int i_messageIsThere])), (a_data, .inl (cy 0, 14928, .inl u2)), (a_main, .inl (cy 1, 204, .inl u3))]) [1, 2, 0] rfl) (hD.sub (ws' := [(o, .inr (6, [v_o_sha, r_signatures, v_o_ripemd, .ref a_data, v_a_scriptEnd, .ref a_main, v_a_other, v_a_taken, .int v4, .int i_otherHeight, .int i_ops, .int i_ifs, .int i_ifsNotTaken, .int u1, r_layout, .int i_tx, .int i_in, r_coin, .int i_messageIsThere])), (a_data, .inl (cy 0, 14928, .inl u2)), (a_main, .inl (cy 1, 204, .inl u3))]) [1, 2, 0] (by decide) rfl) hS (lv_sub hl [] rfl)
                    · have hf := ifn cx hf
                      have cn_7 := lv_neT (a := 146) cx (by decide)
                      clear cx
                      refine lv_tableOut (tgt := 174) hx hb d_Ma_changeNumber_53 (by omega) (by decide) ?_
                      clear cn_0 cn_1 cn_2 cn_3 cn_4 cn_5 cn_6 cn_7
                      refine lv_iconst (v := 0) hx hb d_Ma_changeNumber_174 (by decide) ?_
                      obtain rfl := Option.some.inj hf
                      exact q_rz hx hb hr hlocks hK (hP.sub [1, 2, 0] rfl) (hD.sub [1, 2, 0] (by decide) rfl) hS (isb_n (v := 0) (by decide)) d_Ma_changeNumber_175
    · have hf := ifp cx hf
      refine lv_iconst (v := 0) hx hb d_Ma_changeNumber_26 (by decide) ?_
      obtain rfl := Option.some.inj hf
      exact q_rz hx hb hr hlocks hK (hP.sub [2, 0, 1] rfl) (hD.sub [2, 0, 1] (by decide) rfl) hS (isb_n (v := 0) (by decide)) d_Ma_changeNumber_27
theorem c_Ma_changeNumber (l : Launch) (D : va_G) (cy : Nat → ClassId) (ad : Nat → Nat) (fu : Nat) (o : Nat) (v_o_sha : Value) (r_signatures : Value) (v_o_ripemd : Value) (v_a_scriptEnd : Value) (v_a_other : Value) (v_a_taken : Value) (r_layout : Value) (r_coin : Value) (a_data : Nat) (a_main : Nat) (i_otherHeight : Int32) (i_ops : Int32) (i_ifs : Int32) (i_ifsNotTaken : Int32) (i_tx : Int32) (i_in : Int32) (i_messageIsThere : Int32) (a1 : Int32) (u0 : Int32) (u1 : Int32) (u2 : Nat → Int32) (u3 : Nat → Int32) (res : Int32 × Int32 × Int32 × (Nat → Int32) × (Nat → Int32)) (hf : x_Ma_changeNumber fu i_otherHeight i_ops i_ifs i_ifsNotTaken i_tx i_in i_messageIsThere a1 u0 u1 u2 u3 = some res) (sz : Nat) : Met l ({ cls := "CoinKeeper$Machine", name := "changeNumber", desc := "(I)Z" } : Jvm.MethodName) (.code ({ cls := "CoinKeeper$Machine", name := "changeNumber", desc := "(I)Z" } : Jvm.MethodName) b_Ma_changeNumber 4 (some .boolean) :: gw) rm_Ma_changeNumber (va_Pc [.ref o, .int a1] (Pr D cy ad [(o, .inr (6, [v_o_sha, r_signatures, v_o_ripemd, .ref a_data, v_a_scriptEnd, .ref a_main, v_a_other, v_a_taken, .int u0, .int i_otherHeight, .int i_ops, .int i_ifs, .int i_ifsNotTaken, .int u1, r_layout, .int i_tx, .int i_in, r_coin, .int i_messageIsThere])), (a_data, .inl (cy 0, 14928, .inl u2)), (a_main, .inl (cy 1, 204, .inl u3))] sz)) (q_Ma_changeNumber D cy (va_A [(o, .inr (6, [v_o_sha, r_signatures, v_o_ripemd, .ref a_data, v_a_scriptEnd, .ref a_main, v_a_other, v_a_taken, .int u0, .int i_otherHeight, .int i_ops, .int i_ifs, .int i_ifsNotTaken, .int u1, r_layout, .int i_tx, .int i_in, r_coin, .int i_messageIsThere])), (a_data, .inl (cy 0, 14928, .inl u2)), (a_main, .inl (cy 1, 204, .inl u3))] sz) o v_o_sha r_signatures v_o_ripemd v_a_scriptEnd v_a_other v_a_taken r_layout r_coin a_data a_main i_otherHeight i_ops i_ifs i_ifsNotTaken i_tx i_in i_messageIsThere res) 0 0 (va_A [(o, .inr (6, [v_o_sha, r_signatures, v_o_ripemd, .ref a_data, v_a_scriptEnd, .ref a_main, v_a_other, v_a_taken, .int u0, .int i_otherHeight, .int i_ops, .int i_ifs, .int i_ifsNotTaken, .int u1, r_layout, .int i_tx, .int i_in, r_coin, .int i_messageIsThere])), (a_data, .inl (cy 0, 14928, .inl u2)), (a_main, .inl (cy 1, 204, .inl u3))] sz) :=
  q_met (Qc := fun A => q_Ma_changeNumber D cy A o v_o_sha r_signatures v_o_ripemd v_a_scriptEnd v_a_other v_a_taken r_layout r_coin a_data a_main i_otherHeight i_ops i_ifs i_ifsNotTaken i_tx i_in i_messageIsThere res) (by decide) rfl rfl (Nat.le_of_ble_eq_true rfl) (fun p e s m below meth c ls F hP hD hS hl => we_Ma_changeNumber (fu := fu) F a1 u0 u1 u2 u3 res hf _ _ _ hP hD hS hl) sz
abbrev b_Ma_neededBy : ByteArray := prog_7_method_18_code
theorem d_Ma_neededBy_0 : decode b_Ma_neededBy 0 = .ok (.iload_n 0, 1) := by decide +kernel
theorem d_Ma_neededBy_1 : decode b_Ma_neededBy 1 = .ok (.bipush 123, 2) := by decide +kernel
theorem d_Ma_neededBy_3 : decode b_Ma_neededBy 3 = .ok (.if_icmp .ne 5, 3) := by decide +kernel
theorem d_Ma_neededBy_6 : decode b_Ma_neededBy 6 = .ok (.iconst 3, 1) := by decide +kernel
theorem d_Ma_neededBy_7 : decode b_Ma_neededBy 7 = .ok (.ireturn, 1) := by decide +kernel
theorem d_Ma_neededBy_8 : decode b_Ma_neededBy 8 = .ok (.iload_n 0, 1) := by decide +kernel
theorem d_Ma_neededBy_9 : decode b_Ma_neededBy 9 = .ok (.bipush 109, 2) := by decide +kernel
theorem d_Ma_neededBy_11 : decode b_Ma_neededBy 11 = .ok (.if_icmp .eq 21, 3) := by decide +kernel
theorem d_Ma_neededBy_14 : decode b_Ma_neededBy 14 = .ok (.iload_n 0, 1) := by decide +kernel
theorem d_Ma_neededBy_15 : decode b_Ma_neededBy 15 = .ok (.bipush 110, 2) := by decide +kernel
theorem d_Ma_neededBy_17 : decode b_Ma_neededBy 17 = .ok (.if_icmp .eq 15, 3) := by decide +kernel
theorem d_Ma_neededBy_20 : decode b_Ma_neededBy 20 = .ok (.iload_n 0, 1) := by decide +kernel
theorem d_Ma_neededBy_21 : decode b_Ma_neededBy 21 = .ok (.bipush 119, 2) := by decide +kernel
theorem d_Ma_neededBy_23 : decode b_Ma_neededBy 23 = .ok (.if_icmp .lt 11, 3) := by decide +kernel
theorem d_Ma_neededBy_26 : decode b_Ma_neededBy 26 = .ok (.iload_n 0, 1) := by decide +kernel
theorem d_Ma_neededBy_27 : decode b_Ma_neededBy 27 = .ok (.bipush 125, 2) := by decide +kernel
theorem d_Ma_neededBy_29 : decode b_Ma_neededBy 29 = .ok (.if_icmp .gt 5, 3) := by decide +kernel
theorem d_Ma_neededBy_32 : decode b_Ma_neededBy 32 = .ok (.iconst 2, 1) := by decide +kernel
theorem d_Ma_neededBy_33 : decode b_Ma_neededBy 33 = .ok (.ireturn, 1) := by decide +kernel
theorem d_Ma_neededBy_34 : decode b_Ma_neededBy 34 = .ok (.iload_n 0, 1) := by decide +kernel
theorem d_Ma_neededBy_35 : decode b_Ma_neededBy 35 = .ok (.bipush 116, 2) := by decide +kernel
theorem d_Ma_neededBy_37 : decode b_Ma_neededBy 37 = .ok (.if_icmp .ne 7, 3) := by decide +kernel
theorem d_Ma_neededBy_40 : decode b_Ma_neededBy 40 = .ok (.iconst 0, 1) := by decide +kernel
theorem d_Ma_neededBy_41 : decode b_Ma_neededBy 41 = .ok (.goto 4, 3) := by decide +kernel
theorem d_Ma_neededBy_44 : decode b_Ma_neededBy 44 = .ok (.iconst 1, 1) := by decide +kernel
theorem d_Ma_neededBy_45 : decode b_Ma_neededBy 45 = .ok (.ireturn, 1) := by decide +kernel
abbrev rm_Ma_neededBy : Room := { frames := 0, cells := 0, slots := 0, locals := 0 }
abbrev q_Ma_neededBy (D : va_G) (cy : Nat → ClassId) (A : Nat → Prop) (res : Int32) : Array Value → State → Outcome → State → Prop := va_Qi (fun r' (_ : Unit) => r' = res) (fun _ t => Po D cy A [] t) A
def I_Ma_neededBy_34 (p : Program) (l : Launch) (e : Env) (s : State) (m : MethodId) (args : Array Value) (below : List Frame) (meth : Method) (c : Code) (D : va_G) (cy : Nat → ClassId) (A : Nat → Prop) (ad : Nat → Nat) (k : Int32 → Option (Int32)) : Prop :=
  ∀ (x0 : Int32) (res : Int32), k x0 = some res → ∀ (H : Heap) (locs : List Loc) (ls : Array Slot), va_P D classes [] H → va_D A [] → va_S A s.heap H locs → lv_has ls 1 [(0, .int x0)] → W p l e rm_Ma_neededBy s m args below meth c H locs 0 0 (MQ below (q_Ma_neededBy D cy A res) args s 0 0 A) (F0 m 34 ls [])
def I_Ma_neededBy_e (p : Program) (l : Launch) (e : Env) (s : State) (m : MethodId) (args : Array Value) (below : List Frame) (meth : Method) (c : Code) (D : va_G) (cy : Nat → ClassId) (A : Nat → Prop) (ad : Nat → Nat) (k : Int32 → Option (Int32)) : Prop :=
  ∀ (a0 : Int32) (res : Int32), k a0 = some res → ∀ (H : Heap) (locs : List Loc) (ls : Array Slot), va_P D classes [] H → va_D A [] → va_S A s.heap H locs → lv_has ls 1 [(0, .int a0)] → W p l e rm_Ma_neededBy s m args below meth c H locs 0 0 (MQ below (q_Ma_neededBy D cy A res) args s 0 0 A) (F0 m 0 ls [])
set_option maxHeartbeats 8000000 in
set_option maxRecDepth 100000 in
theorem wb_Ma_neededBy_34 {p : Program} {l : Launch} {e : Env} {s : State} {m : MethodId} {args : Array Value} {below : List Frame} {meth : Method} {c : Code} {D : va_G} {cy : Nat → ClassId} {A : Nat → Prop} {ad : Nat → Nat} {fu : Nat} (F : Fx p s m args meth c b_Ma_neededBy 1 "CoinKeeper$Machine" "neededBy" (some .int) D cy ad A) : I_Ma_neededBy_34 p l e s m args below meth c D cy A ad (xb_Ma_neededBy_34 fu) := by
  obtain ⟨hx, hb, hr, hml, hown, hts, hlocks, hK, hA, hSt, hnm, hex⟩ := id F
  intro x0 res hf H locs ls hP hD hS hl
  unfold xb_Ma_neededBy_34 at hf
  refine lv_iload_n hx hb d_Ma_neededBy_34 rfl (lv_at hl 0 rfl) ?_
  refine lv_bipush (v := 116) hx hb d_Ma_neededBy_35 (by decide) ?_
  refine lv_icmp_ne (tgt := 44) hx hb d_Ma_neededBy_37 (by decide) (fun cx => ?_) (fun cx => ?_)
  · have hf := ifn cx hf
    refine lv_iconst (v := 1) hx hb d_Ma_neededBy_44 (by decide) ?_
    obtain rfl := Option.some.inj hf
    exact q_ri hx hb hr hlocks hK hP hD hS d_Ma_neededBy_45
  · have hf := ifp cx hf
    refine lv_iconst (v := 0) hx hb d_Ma_neededBy_40 (by decide) ?_
    refine lv_goto (tgt := 45) hx hb d_Ma_neededBy_41 (by decide) ?_
    obtain rfl := Option.some.inj hf
    exact q_ri hx hb hr hlocks hK hP hD hS d_Ma_neededBy_45
set_option maxHeartbeats 8000000 in
set_option maxRecDepth 100000 in
theorem we_Ma_neededBy {p : Program} {l : Launch} {e : Env} {s : State} {m : MethodId} {args : Array Value} {below : List Frame} {meth : Method} {c : Code} {D : va_G} {cy : Nat → ClassId} {A : Nat → Prop} {ad : Nat → Nat} {fu : Nat} (F : Fx p s m args meth c b_Ma_neededBy 1 "CoinKeeper$Machine" "neededBy" (some .int) D cy ad A) : I_Ma_neededBy_e p l e s m args below meth c D cy A ad (x_Ma_neededBy fu) := by
  obtain ⟨hx, hb, hr, hml, hown, hts, hlocks, hK, hA, hSt, hnm, hex⟩ := id F
  intro a0 res hf H locs ls hP hD hS hl
  unfold x_Ma_neededBy at hf
  refine lv_iload_n hx hb d_Ma_neededBy_0 rfl (lv_at hl 0 rfl) ?_
  refine lv_bipush (v := 123) hx hb d_Ma_neededBy_1 (by decide) ?_
  refine lv_icmp_ne (tgt := 8) hx hb d_Ma_neededBy_3 (by decide) (fun cx => ?_) (fun cx => ?_)
  · have hf := ifn cx hf
    refine lv_iload_n hx hb d_Ma_neededBy_8 rfl (lv_at hl 0 rfl) ?_
    refine lv_bipush (v := 109) hx hb d_Ma_neededBy_9 (by decide) ?_
    refine lv_icmp_eq (tgt := 32) hx hb d_Ma_neededBy_11 (by decide) (fun cx => ?_) (fun cx => ?_)
    · have hf := ifp cx hf
      refine lv_iconst (v := 2) hx hb d_Ma_neededBy_32 (by decide) ?_
      obtain rfl := Option.some.inj hf
      exact q_ri hx hb hr hlocks hK hP hD hS d_Ma_neededBy_33
    · have hf := ifn cx hf
      refine lv_iload_n hx hb d_Ma_neededBy_14 rfl (lv_at hl 0 rfl) ?_
      refine lv_bipush (v := 110) hx hb d_Ma_neededBy_15 (by decide) ?_
      refine lv_icmp_eq (tgt := 32) hx hb d_Ma_neededBy_17 (by decide) (fun cx => ?_) (fun cx => ?_)
      · have hf := ifp cx hf
        refine lv_iconst (v := 2) hx hb d_Ma_neededBy_32 (by decide) ?_
        obtain rfl := Option.some.inj hf
        exact q_ri hx hb hr hlocks hK hP hD hS d_Ma_neededBy_33
      · have hf := ifn cx hf
        refine lv_iload_n hx hb d_Ma_neededBy_20 rfl (lv_at hl 0 rfl) ?_
        refine lv_bipush (v := 119) hx hb d_Ma_neededBy_21 (by decide) ?_
        refine lv_icmp_lt (tgt := 34) hx hb d_Ma_neededBy_23 (by decide) (fun cx => ?_) (fun cx => ?_)
        · have hf := ifp cx hf
          exact wb_Ma_neededBy_34 (fu := fu) F _ _ hf _ _ _ hP hD hS (lv_sub hl [0] rfl)
        · have hf := ifn cx hf
          refine lv_iload_n hx hb d_Ma_neededBy_26 rfl (lv_at hl 0 rfl) ?_
          refine lv_bipush (v := 125) hx hb d_Ma_neededBy_27 (by decide) ?_
          refine lv_icmp_gt (tgt := 34) hx hb d_Ma_neededBy_29 (by decide) (fun cx => ?_) (fun cx => ?_)
          · have hf := ifp cx hf
            exact wb_Ma_neededBy_34 (fu := fu) F _ _ hf _ _ _ hP hD hS (lv_sub hl [0] rfl)
          · have hf := ifn cx hf
            refine lv_iconst (v := 2) hx hb d_Ma_neededBy_32 (by decide) ?_
            obtain rfl := Option.some.inj hf
            exact q_ri hx hb hr hlocks hK hP hD hS d_Ma_neededBy_33
  · have hf := ifp cx hf
    refine lv_iconst (v := 3) hx hb d_Ma_neededBy_6 (by decide) ?_
    obtain rfl := Option.some.inj hf
    exact q_ri hx hb hr hlocks hK hP hD hS d_Ma_neededBy_7
theorem c_Ma_neededBy (l : Launch) (D : va_G) (cy : Nat → ClassId) (ad : Nat → Nat) (fu : Nat) (a0 : Int32) (res : Int32) (hf : x_Ma_neededBy fu a0 = some res) (sz : Nat) : Met l ({ cls := "CoinKeeper$Machine", name := "neededBy", desc := "(I)I" } : Jvm.MethodName) (.code ({ cls := "CoinKeeper$Machine", name := "neededBy", desc := "(I)I" } : Jvm.MethodName) b_Ma_neededBy 1 (some .int) :: gw) rm_Ma_neededBy (va_Pc [.int a0] (Pr D cy ad [] sz)) (q_Ma_neededBy D cy (va_A [] sz) res) 0 0 (va_A [] sz) :=
  q_met (Qc := fun A => q_Ma_neededBy D cy A res) (by decide) rfl rfl (Nat.le_of_ble_eq_true rfl) (fun p e s m below meth c ls F hP hD hS hl => we_Ma_neededBy (fu := fu) F a0 res hf _ _ _ hP hD hS hl) sz
abbrev b_Ma_fetch : ByteArray := prog_7_method_22_code
theorem d_Ma_fetch_0 : decode b_Ma_fetch 0 = .ok (.aload_n 0, 1) := by decide +kernel
theorem d_Ma_fetch_1 : decode b_Ma_fetch 1 = .ok (.dup, 1) := by decide +kernel
theorem d_Ma_fetch_2 : decode b_Ma_fetch 2 = .ok (.getfield 73, 3) := by decide +kernel
theorem d_Ma_fetch_5 : decode b_Ma_fetch 5 = .ok (.iconst 1, 1) := by decide +kernel
theorem d_Ma_fetch_6 : decode b_Ma_fetch 6 = .ok (.isub, 1) := by decide +kernel
theorem d_Ma_fetch_7 : decode b_Ma_fetch 7 = .ok (.putfield 73, 3) := by decide +kernel
theorem d_Ma_fetch_10 : decode b_Ma_fetch 10 = .ok (.aload_n 0, 1) := by decide +kernel
theorem d_Ma_fetch_11 : decode b_Ma_fetch 11 = .ok (.getfield 26, 3) := by decide +kernel
theorem d_Ma_fetch_14 : decode b_Ma_fetch 14 = .ok (.aload_n 0, 1) := by decide +kernel
theorem d_Ma_fetch_15 : decode b_Ma_fetch 15 = .ok (.getfield 73, 3) := by decide +kernel
theorem d_Ma_fetch_18 : decode b_Ma_fetch 18 = .ok (.iaload, 1) := by decide +kernel
theorem d_Ma_fetch_19 : decode b_Ma_fetch 19 = .ok (.istore_n 2, 1) := by decide +kernel
theorem d_Ma_fetch_20 : decode b_Ma_fetch 20 = .ok (.aload_n 0, 1) := by decide +kernel
theorem d_Ma_fetch_21 : decode b_Ma_fetch 21 = .ok (.iload_n 2, 1) := by decide +kernel
theorem d_Ma_fetch_22 : decode b_Ma_fetch 22 = .ok (.invokevirtual 167, 3) := by decide +kernel
theorem d_Ma_fetch_25 : decode b_Ma_fetch 25 = .ok (.ifCond .eq 27, 3) := by decide +kernel
theorem d_Ma_fetch_28 : decode b_Ma_fetch 28 = .ok (.aload_n 0, 1) := by decide +kernel
theorem d_Ma_fetch_29 : decode b_Ma_fetch 29 = .ok (.iload_n 2, 1) := by decide +kernel
theorem d_Ma_fetch_30 : decode b_Ma_fetch 30 = .ok (.invokevirtual 170, 3) := by decide +kernel
theorem d_Ma_fetch_33 : decode b_Ma_fetch 33 = .ok (.lconst 0, 1) := by decide +kernel
theorem d_Ma_fetch_34 : decode b_Ma_fetch 34 = .ok (.lcmp, 1) := by decide +kernel
theorem d_Ma_fetch_35 : decode b_Ma_fetch 35 = .ok (.ifCond .lt 17, 3) := by decide +kernel
theorem d_Ma_fetch_38 : decode b_Ma_fetch 38 = .ok (.aload_n 0, 1) := by decide +kernel
theorem d_Ma_fetch_39 : decode b_Ma_fetch 39 = .ok (.iload_n 2, 1) := by decide +kernel
theorem d_Ma_fetch_40 : decode b_Ma_fetch 40 = .ok (.invokevirtual 170, 3) := by decide +kernel
theorem d_Ma_fetch_43 : decode b_Ma_fetch 43 = .ok (.aload_n 0, 1) := by decide +kernel
theorem d_Ma_fetch_44 : decode b_Ma_fetch 44 = .ok (.getfield 73, 3) := by decide +kernel
theorem d_Ma_fetch_47 : decode b_Ma_fetch 47 = .ok (.i2l, 1) := by decide +kernel
theorem d_Ma_fetch_48 : decode b_Ma_fetch 48 = .ok (.lcmp, 1) := by decide +kernel
theorem d_Ma_fetch_49 : decode b_Ma_fetch 49 = .ok (.ifCond .lt 5, 3) := by decide +kernel
theorem d_Ma_fetch_52 : decode b_Ma_fetch 52 = .ok (.iconst 0, 1) := by decide +kernel
theorem d_Ma_fetch_53 : decode b_Ma_fetch 53 = .ok (.ireturn, 1) := by decide +kernel
theorem d_Ma_fetch_54 : decode b_Ma_fetch 54 = .ok (.aload_n 0, 1) := by decide +kernel
theorem d_Ma_fetch_55 : decode b_Ma_fetch 55 = .ok (.getfield 73, 3) := by decide +kernel
theorem d_Ma_fetch_58 : decode b_Ma_fetch 58 = .ok (.iconst 1, 1) := by decide +kernel
theorem d_Ma_fetch_59 : decode b_Ma_fetch 59 = .ok (.isub, 1) := by decide +kernel
theorem d_Ma_fetch_60 : decode b_Ma_fetch 60 = .ok (.aload_n 0, 1) := by decide +kernel
theorem d_Ma_fetch_61 : decode b_Ma_fetch 61 = .ok (.iload_n 2, 1) := by decide +kernel
theorem d_Ma_fetch_62 : decode b_Ma_fetch 62 = .ok (.invokevirtual 170, 3) := by decide +kernel
theorem d_Ma_fetch_65 : decode b_Ma_fetch 65 = .ok (.l2i, 1) := by decide +kernel
theorem d_Ma_fetch_66 : decode b_Ma_fetch 66 = .ok (.isub, 1) := by decide +kernel
theorem d_Ma_fetch_67 : decode b_Ma_fetch 67 = .ok (.istore_n 3, 1) := by decide +kernel
theorem d_Ma_fetch_68 : decode b_Ma_fetch 68 = .ok (.aload_n 0, 1) := by decide +kernel
theorem d_Ma_fetch_69 : decode b_Ma_fetch 69 = .ok (.getfield 26, 3) := by decide +kernel
theorem d_Ma_fetch_72 : decode b_Ma_fetch 72 = .ok (.iload_n 3, 1) := by decide +kernel
theorem d_Ma_fetch_73 : decode b_Ma_fetch 73 = .ok (.iaload, 1) := by decide +kernel
theorem d_Ma_fetch_74 : decode b_Ma_fetch 74 = .ok (.istore 4, 2) := by decide +kernel
theorem d_Ma_fetch_76 : decode b_Ma_fetch 76 = .ok (.iload_n 1, 1) := by decide +kernel
theorem d_Ma_fetch_77 : decode b_Ma_fetch 77 = .ok (.bipush 122, 2) := by decide +kernel
theorem d_Ma_fetch_79 : decode b_Ma_fetch 79 = .ok (.if_icmp .ne 34, 3) := by decide +kernel
theorem d_Ma_fetch_82 : decode b_Ma_fetch 82 = .ok (.aload_n 0, 1) := by decide +kernel
theorem d_Ma_fetch_83 : decode b_Ma_fetch 83 = .ok (.dup, 1) := by decide +kernel
theorem d_Ma_fetch_84 : decode b_Ma_fetch 84 = .ok (.getfield 73, 3) := by decide +kernel
theorem d_Ma_fetch_87 : decode b_Ma_fetch 87 = .ok (.iconst 1, 1) := by decide +kernel
theorem d_Ma_fetch_88 : decode b_Ma_fetch 88 = .ok (.isub, 1) := by decide +kernel
theorem d_Ma_fetch_89 : decode b_Ma_fetch 89 = .ok (.putfield 73, 3) := by decide +kernel
theorem d_Ma_fetch_92 : decode b_Ma_fetch 92 = .ok (.aload_n 0, 1) := by decide +kernel
theorem d_Ma_fetch_93 : decode b_Ma_fetch 93 = .ok (.getfield 26, 3) := by decide +kernel
theorem d_Ma_fetch_96 : decode b_Ma_fetch 96 = .ok (.iload_n 3, 1) := by decide +kernel
theorem d_Ma_fetch_97 : decode b_Ma_fetch 97 = .ok (.iconst 1, 1) := by decide +kernel
theorem d_Ma_fetch_98 : decode b_Ma_fetch 98 = .ok (.iadd, 1) := by decide +kernel
theorem d_Ma_fetch_99 : decode b_Ma_fetch 99 = .ok (.aload_n 0, 1) := by decide +kernel
theorem d_Ma_fetch_100 : decode b_Ma_fetch 100 = .ok (.getfield 26, 3) := by decide +kernel
theorem d_Ma_fetch_103 : decode b_Ma_fetch 103 = .ok (.iload_n 3, 1) := by decide +kernel
theorem d_Ma_fetch_104 : decode b_Ma_fetch 104 = .ok (.aload_n 0, 1) := by decide +kernel
theorem d_Ma_fetch_105 : decode b_Ma_fetch 105 = .ok (.getfield 73, 3) := by decide +kernel
theorem d_Ma_fetch_108 : decode b_Ma_fetch 108 = .ok (.iload_n 3, 1) := by decide +kernel
theorem d_Ma_fetch_109 : decode b_Ma_fetch 109 = .ok (.isub, 1) := by decide +kernel
theorem d_Ma_fetch_110 : decode b_Ma_fetch 110 = .ok (.invokestatic 44, 3) := by decide +kernel
theorem d_Ma_fetch_113 : decode b_Ma_fetch 113 = .ok (.aload_n 0, 1) := by decide +kernel
theorem d_Ma_fetch_114 : decode b_Ma_fetch 114 = .ok (.iload 4, 2) := by decide +kernel
theorem d_Ma_fetch_116 : decode b_Ma_fetch 116 = .ok (.invokevirtual 95, 3) := by decide +kernel
theorem d_Ma_fetch_119 : decode b_Ma_fetch 119 = .ok (.iconst 1, 1) := by decide +kernel
theorem d_Ma_fetch_120 : decode b_Ma_fetch 120 = .ok (.ireturn, 1) := by decide +kernel
abbrev rm_Ma_fetch : Room := { frames := 2, cells := 0, slots := 0, locals := 46 }
abbrev q_Ma_fetch (D : va_G) (cy : Nat → ClassId) (A : Nat → Prop) (o : Nat) (v_o_sha : Value) (r_signatures : Value) (v_o_ripemd : Value) (v_a_scriptEnd : Value) (v_a_other : Value) (v_a_taken : Value) (r_layout : Value) (r_coin : Value) (a_data : Nat) (a_main : Nat) (i_otherHeight : Int32) (i_ops : Int32) (i_ifs : Int32) (i_ifsNotTaken : Int32) (i_free : Int32) (i_tx : Int32) (i_in : Int32) (i_messageIsThere : Int32) (g_data : Nat → Int32) (res : Int32 × Int32 × (Nat → Int32)) : Array Value → State → Outcome → State → Prop := va_Qi (fun r' (_ : Unit) => r' = res.1) (fun _ t => Po D cy A [(o, .inr (6, [v_o_sha, r_signatures, v_o_ripemd, .ref a_data, v_a_scriptEnd, .ref a_main, v_a_other, v_a_taken, .int res.2.1, .int i_otherHeight, .int i_ops, .int i_ifs, .int i_ifsNotTaken, .int i_free, r_layout, .int i_tx, .int i_in, r_coin, .int i_messageIsThere])), (a_data, .inl (cy 0, 14928, .inl g_data)), (a_main, .inl (cy 1, 204, .inl res.2.2))] t) A
def I_Ma_fetch_113 (p : Program) (l : Launch) (e : Env) (s : State) (m : MethodId) (args : Array Value) (below : List Frame) (meth : Method) (c : Code) (D : va_G) (cy : Nat → ClassId) (A : Nat → Prop) (ad : Nat → Nat) (o : Nat) (v_o_sha : Value) (r_signatures : Value) (v_o_ripemd : Value) (v_a_scriptEnd : Value) (v_a_other : Value) (v_a_taken : Value) (r_layout : Value) (r_coin : Value) (a_data : Nat) (a_main : Nat) (i_otherHeight : Int32) (i_ops : Int32) (i_ifs : Int32) (i_ifsNotTaken : Int32) (i_free : Int32) (i_tx : Int32) (i_in : Int32) (i_messageIsThere : Int32) (g_data : Nat → Int32) (k : Int32 → Int32 → (Nat → Int32) → Option (Int32 × Int32 × (Nat → Int32))) : Prop :=
  ∀ (x4 : Int32) (u0 : Int32) (u1 : Nat → Int32) (res : Int32 × Int32 × (Nat → Int32)), k x4 u0 u1 = some res → ∀ (H : Heap) (locs : List Loc) (ls : Array Slot), va_P D classes [(o, .inr (6, [v_o_sha, r_signatures, v_o_ripemd, .ref a_data, v_a_scriptEnd, .ref a_main, v_a_other, v_a_taken, .int u0, .int i_otherHeight, .int i_ops, .int i_ifs, .int i_ifsNotTaken, .int i_free, r_layout, .int i_tx, .int i_in, r_coin, .int i_messageIsThere])), (a_data, .inl (cy 0, 14928, .inl g_data)), (a_main, .inl (cy 1, 204, .inl u1))] H → va_D A [(o, .inr (6, [v_o_sha, r_signatures, v_o_ripemd, .ref a_data, v_a_scriptEnd, .ref a_main, v_a_other, v_a_taken, .int u0, .int i_otherHeight, .int i_ops, .int i_ifs, .int i_ifsNotTaken, .int i_free, r_layout, .int i_tx, .int i_in, r_coin, .int i_messageIsThere])), (a_data, .inl (cy 0, 14928, .inl g_data)), (a_main, .inl (cy 1, 204, .inl u1))] → va_S A s.heap H locs → lv_has ls 5 [(0, .ref o), (4, .int x4)] → W p l e rm_Ma_fetch s m args below meth c H locs 0 0 (MQ below (q_Ma_fetch D cy A o v_o_sha r_signatures v_o_ripemd v_a_scriptEnd v_a_other v_a_taken r_layout r_coin a_data a_main i_otherHeight i_ops i_ifs i_ifsNotTaken i_free i_tx i_in i_messageIsThere g_data res) args s 0 0 A) (F0 m 113 ls [])
def I_Ma_fetch_e (p : Program) (l : Launch) (e : Env) (s : State) (m : MethodId) (args : Array Value) (below : List Frame) (meth : Method) (c : Code) (D : va_G) (cy : Nat → ClassId) (A : Nat → Prop) (ad : Nat → Nat) (o : Nat) (v_o_sha : Value) (r_signatures : Value) (v_o_ripemd : Value) (v_a_scriptEnd : Value) (v_a_other : Value) (v_a_taken : Value) (r_layout : Value) (r_coin : Value) (a_data : Nat) (a_main : Nat) (i_otherHeight : Int32) (i_ops : Int32) (i_ifs : Int32) (i_ifsNotTaken : Int32) (i_free : Int32) (i_tx : Int32) (i_in : Int32) (i_messageIsThere : Int32) (g_data : Nat → Int32) (k : Int32 → Int32 → (Nat → Int32) → Option (Int32 × Int32 × (Nat → Int32))) : Prop :=
  ∀ (a1 : Int32) (u0 : Int32) (u1 : Nat → Int32) (res : Int32 × Int32 × (Nat → Int32)), k a1 u0 u1 = some res → ∀ (H : Heap) (locs : List Loc) (ls : Array Slot), va_P D classes [(o, .inr (6, [v_o_sha, r_signatures, v_o_ripemd, .ref a_data, v_a_scriptEnd, .ref a_main, v_a_other, v_a_taken, .int u0, .int i_otherHeight, .int i_ops, .int i_ifs, .int i_ifsNotTaken, .int i_free, r_layout, .int i_tx, .int i_in, r_coin, .int i_messageIsThere])), (a_data, .inl (cy 0, 14928, .inl g_data)), (a_main, .inl (cy 1, 204, .inl u1))] H → va_D A [(o, .inr (6, [v_o_sha, r_signatures, v_o_ripemd, .ref a_data, v_a_scriptEnd, .ref a_main, v_a_other, v_a_taken, .int u0, .int i_otherHeight, .int i_ops, .int i_ifs, .int i_ifsNotTaken, .int i_free, r_layout, .int i_tx, .int i_in, r_coin, .int i_messageIsThere])), (a_data, .inl (cy 0, 14928, .inl g_data)), (a_main, .inl (cy 1, 204, .inl u1))] → va_S A s.heap H locs → lv_has ls 5 [(0, .ref o), (1, .int a1)] → W p l e rm_Ma_fetch s m args below meth c H locs 0 0 (MQ below (q_Ma_fetch D cy A o v_o_sha r_signatures v_o_ripemd v_a_scriptEnd v_a_other v_a_taken r_layout r_coin a_data a_main i_otherHeight i_ops i_ifs i_ifsNotTaken i_free i_tx i_in i_messageIsThere g_data res) args s 0 0 A) (F0 m 0 ls [])
set_option maxHeartbeats 8000000 in
set_option maxRecDepth 100000 in
theorem wb_Ma_fetch_113 {p : Program} {l : Launch} {e : Env} {s : State} {m : MethodId} {args : Array Value} {below : List Frame} {meth : Method} {c : Code} {D : va_G} {cy : Nat → ClassId} {A : Nat → Prop} {ad : Nat → Nat} {o : Nat} {v_o_sha : Value} {r_signatures : Value} {v_o_ripemd : Value} {v_a_scriptEnd : Value} {v_a_other : Value} {v_a_taken : Value} {r_layout : Value} {r_coin : Value} {a_data : Nat} {a_main : Nat} {i_otherHeight : Int32} {i_ops : Int32} {i_ifs : Int32} {i_ifsNotTaken : Int32} {i_free : Int32} {i_tx : Int32} {i_in : Int32} {i_messageIsThere : Int32} {g_data : Nat → Int32} {fu : Nat} (F : Fx p s m args meth c b_Ma_fetch 5 "CoinKeeper$Machine" "fetch" (some .boolean) D cy ad A) : I_Ma_fetch_113 p l e s m args below meth c D cy A ad o v_o_sha r_signatures v_o_ripemd v_a_scriptEnd v_a_other v_a_taken r_layout r_coin a_data a_main i_otherHeight i_ops i_ifs i_ifsNotTaken i_free i_tx i_in i_messageIsThere g_data (xb_Ma_fetch_113 fu i_otherHeight i_ops i_ifs i_ifsNotTaken i_free i_tx i_in i_messageIsThere g_data) := by
  obtain ⟨hx, hb, hr, hml, hown, hts, hlocks, hK, hA, hSt, hnm, hex⟩ := id F
  intro x4 u0 u1 res hf H locs ls hP hD hS hl
  unfold xb_Ma_fetch_113 at hf
  refine lv_aload_n hx hb d_Ma_fetch_113 rfl (lv_at hl 0 rfl) ?_
  refine lv_iload hx hb d_Ma_fetch_114 (lv_at hl 1 rfl) ?_
  obtain ⟨e1, f2, hc, hf⟩ := bdp2 hf
  refine q_av (wr := [(a_data, .inl (cy 0, 14928, .inl g_data))]) (va_runV (C := "CoinKeeper$Machine") (As := [.int x4]) (rest := []) ⟨hx, hb, hml, hown, hts⟩ (c_Ma_push l D cy ad fu o v_o_sha r_signatures v_o_ripemd (.ref a_data) v_a_scriptEnd v_a_other v_a_taken r_layout r_coin a_main i_otherHeight i_ops i_ifs i_ifsNotTaken i_free i_tx i_in i_messageIsThere x4 u0 u1 _ hc H.size) ⟨q_cB hts gw_988 gw_6 gw_985 hdc_42 ⟨by decide, by decide⟩, hts _ gw_987, hts _ gs_28⟩ (q_preV (q_pre (hP.sub [0, 2] rfl) (hD.sub [0, 2] (by decide) rfl) hK hSt hS (va_free hD hS hA [0, 2] rfl) _) (va_recv hK (hP.sub [0, 2] rfl) (ci := 6) (q0 := 0) rfl rfl)) rfl rfl hl.1 rfl (lv_room (Nat.le_of_ble_eq_true rfl)) d_Ma_fetch_116 ⟨Nat.le_of_ble_eq_true rfl, Nat.le_of_ble_eq_true rfl⟩) hP hD hS hA [0, 2] [1] rfl rfl (by decide) (by decide) (fun H locs hP hD hS => ?_)
  clear hc
  have hP : va_P D classes [(a_data, .inl (cy 0, 14928, .inl g_data)), (o, .inr (6, [v_o_sha, r_signatures, v_o_ripemd, .ref a_data, v_a_scriptEnd, .ref a_main, v_a_other, v_a_taken, .int e1, .int i_otherHeight, .int i_ops, .int i_ifs, .int i_ifsNotTaken, .int i_free, r_layout, .int i_tx, .int i_in, r_coin, .int i_messageIsThere])), (a_main, .inl (cy 1, 204, .inl f2))] H := hP
  have hD : va_D A [(a_data, .inl (cy 0, 14928, .inl g_data)), (o, .inr (6, [v_o_sha, r_signatures, v_o_ripemd, .ref a_data, v_a_scriptEnd, .ref a_main, v_a_other, v_a_taken, .int e1, .int i_otherHeight, .int i_ops, .int i_ifs, .int i_ifsNotTaken, .int i_free, r_layout, .int i_tx, .int i_in, r_coin, .int i_messageIsThere])), (a_main, .inl (cy 1, 204, .inl f2))] := hD
  refine lv_iconst (v := 1) hx hb d_Ma_fetch_119 (by decide) ?_
  obtain rfl := Option.some.inj hf
  exact q_rz hx hb hr hlocks hK (hP.sub [1, 0, 2] rfl) (hD.sub [1, 0, 2] (by decide) rfl) hS (isb_n (v := 1) (by decide)) d_Ma_fetch_120
set_option maxHeartbeats 8000000 in
set_option maxRecDepth 100000 in
theorem we_Ma_fetch {p : Program} {l : Launch} {e : Env} {s : State} {m : MethodId} {args : Array Value} {below : List Frame} {meth : Method} {c : Code} {D : va_G} {cy : Nat → ClassId} {A : Nat → Prop} {ad : Nat → Nat} {o : Nat} {v_o_sha : Value} {r_signatures : Value} {v_o_ripemd : Value} {v_a_scriptEnd : Value} {v_a_other : Value} {v_a_taken : Value} {r_layout : Value} {r_coin : Value} {a_data : Nat} {a_main : Nat} {i_otherHeight : Int32} {i_ops : Int32} {i_ifs : Int32} {i_ifsNotTaken : Int32} {i_free : Int32} {i_tx : Int32} {i_in : Int32} {i_messageIsThere : Int32} {g_data : Nat → Int32} {fu : Nat} (F : Fx p s m args meth c b_Ma_fetch 5 "CoinKeeper$Machine" "fetch" (some .boolean) D cy ad A) : I_Ma_fetch_e p l e s m args below meth c D cy A ad o v_o_sha r_signatures v_o_ripemd v_a_scriptEnd v_a_other v_a_taken r_layout r_coin a_data a_main i_otherHeight i_ops i_ifs i_ifsNotTaken i_free i_tx i_in i_messageIsThere g_data (x_Ma_fetch fu i_otherHeight i_ops i_ifs i_ifsNotTaken i_free i_tx i_in i_messageIsThere g_data) := by
  obtain ⟨hx, hb, hr, hml, hown, hts, hlocks, hK, hA, hSt, hnm, hex⟩ := id F
  intro a1 u0 u1 res hf H locs ls hP hD hS hl
  unfold x_Ma_fetch at hf
  refine lv_aload_n hx hb d_Ma_fetch_0 rfl (lv_at hl 0 rfl) ?_
  refine lv_dup hx hb d_Ma_fetch_1 rfl ?_
  refine va_get (D := D) (ci := 6) (v := .int u0) (C := "CoinKeeper$Machine") (T := F_6) (N := 19) hx hb hts i_6 hown hK hP 0 rfl rfl 8 (by decide) (hts _ gw_212) (fun _ h9 => h9) rfl d_Ma_fetch_2 ?_
  refine lv_iconst (v := 1) hx hb d_Ma_fetch_5 (by decide) ?_
  refine lv_isub hx hb d_Ma_fetch_6 ?_
  refine lv_topi (fun v1 ev => ?_)
  have hf := bn ev hf
  clear ev
  refine va_put (D := D) (ci := 6) (v := .int v1) (ty := .int) (C := "CoinKeeper$Machine") (T := F_6) (N := 19) hx hb hts i_6 t_6 t_6_ok n_6 hown hK hP hD hS 0 rfl rfl 8 (by decide) (hts _ gw_212) (fun _ h9 => h9) rfl (by decide +kernel) rfl rfl (Nat.le_of_ble_eq_true rfl) d_Ma_fetch_7 (fun H locs hP hD hS => ?_)
  have hP : va_P D classes [(o, .inr (6, [v_o_sha, r_signatures, v_o_ripemd, .ref a_data, v_a_scriptEnd, .ref a_main, v_a_other, v_a_taken, .int v1, .int i_otherHeight, .int i_ops, .int i_ifs, .int i_ifsNotTaken, .int i_free, r_layout, .int i_tx, .int i_in, r_coin, .int i_messageIsThere])), (a_data, .inl (cy 0, 14928, .inl g_data)), (a_main, .inl (cy 1, 204, .inl u1))] H := hP
  have hD : va_D A [(o, .inr (6, [v_o_sha, r_signatures, v_o_ripemd, .ref a_data, v_a_scriptEnd, .ref a_main, v_a_other, v_a_taken, .int v1, .int i_otherHeight, .int i_ops, .int i_ifs, .int i_ifsNotTaken, .int i_free, r_layout, .int i_tx, .int i_in, r_coin, .int i_messageIsThere])), (a_data, .inl (cy 0, 14928, .inl g_data)), (a_main, .inl (cy 1, 204, .inl u1))] := hD
  refine lv_aload_n hx hb d_Ma_fetch_10 rfl (lv_at hl 0 rfl) ?_
  refine va_get (D := D) (ci := 6) (v := .ref a_main) (C := "CoinKeeper$Machine") (T := F_6) (N := 19) hx hb hts i_6 hown hK hP 0 rfl rfl 5 (by decide) (hts _ gw_209) (fun _ h9 => h9) rfl d_Ma_fetch_11 ?_
  refine lv_aload_n hx hb d_Ma_fetch_14 rfl (lv_at hl 0 rfl) ?_
  refine va_get (D := D) (ci := 6) (v := .int v1) (C := "CoinKeeper$Machine") (T := F_6) (N := 19) hx hb hts i_6 hown hK hP 0 rfl rfl 8 (by decide) (hts _ gw_212) (fun _ h9 => h9) rfl d_Ma_fetch_15 ?_
  obtain ⟨hg, hf⟩ := gdp hf
  refine va_iald hx hb hK hP 2 1 rfl rfl (inb_in hg) d_Ma_fetch_18 ?_
  refine lv_topi (fun v2 ev => ?_)
  have hf := bn ev hf
  clear ev
  refine lv_istore_n (lv' := [(2, .int v2), (0, .ref o), (1, .int a1)]) hx hb d_Ma_fetch_19 rfl hl (by decide) rfl (fun ls hl => ?_)
  refine lv_aload_n hx hb d_Ma_fetch_20 rfl (lv_at hl 1 rfl) ?_
  refine lv_iload_n hx hb d_Ma_fetch_21 rfl (lv_at hl 0 rfl) ?_
  obtain ⟨v3, hc, hf⟩ := bdp1 hf
  refine q_ai (wr := [(a_data, .inl (cy 0, 14928, .inl g_data)), (a_main, .inl (cy 1, 204, .inl u1))]) (va_runV (C := "CoinKeeper$Machine") (As := [.int v2]) (rest := []) ⟨hx, hb, hml, hown, hts⟩ (c_Ma_isNumber l D cy ad fu o v_o_sha r_signatures v_o_ripemd (.ref a_data) v_a_scriptEnd (.ref a_main) v_a_other v_a_taken r_layout r_coin v1 i_otherHeight i_ops i_ifs i_ifsNotTaken i_free i_tx i_in i_messageIsThere v2 _ hc H.size) ⟨q_cB hts gw_1014 gw_6 gw_1011 hdc_44 ⟨by decide, by decide⟩, hts _ gw_1013, hts _ gs_33⟩ (q_preV (q_pre (hP.sub [0] rfl) (hD.sub [0] (by decide) rfl) hK hSt hS (va_free hD hS hA [0] rfl) _) (va_recv hK (hP.sub [0] rfl) (ci := 6) (q0 := 0) rfl rfl)) rfl rfl hl.1 rfl (lv_room (Nat.le_of_ble_eq_true rfl)) d_Ma_fetch_22 ⟨Nat.le_of_ble_eq_true rfl, Nat.le_of_ble_eq_true rfl⟩) hP hD hS hA [0] [1, 2] rfl rfl (by decide) (by decide) (fun H locs hP hD hS => ?_)
  clear hc
  have hP : va_P D classes [(a_data, .inl (cy 0, 14928, .inl g_data)), (a_main, .inl (cy 1, 204, .inl u1)), (o, .inr (6, [v_o_sha, r_signatures, v_o_ripemd, .ref a_data, v_a_scriptEnd, .ref a_main, v_a_other, v_a_taken, .int v1, .int i_otherHeight, .int i_ops, .int i_ifs, .int i_ifsNotTaken, .int i_free, r_layout, .int i_tx, .int i_in, r_coin, .int i_messageIsThere]))] H := hP
  have hD : va_D A [(a_data, .inl (cy 0, 14928, .inl g_data)), (a_main, .inl (cy 1, 204, .inl u1)), (o, .inr (6, [v_o_sha, r_signatures, v_o_ripemd, .ref a_data, v_a_scriptEnd, .ref a_main, v_a_other, v_a_taken, .int v1, .int i_otherHeight, .int i_ops, .int i_ifs, .int i_ifsNotTaken, .int i_free, r_layout, .int i_tx, .int i_in, r_coin, .int i_messageIsThere]))] := hD
  refine lv_if_eq (tgt := 52) hx hb d_Ma_fetch_25 (by decide) (fun cx => ?_) (fun cx => ?_)
  · have hf := ifp cx hf
    refine lv_iconst (v := 0) hx hb d_Ma_fetch_52 (by decide) ?_
    obtain rfl := Option.some.inj hf
    exact q_rz hx hb hr hlocks hK (hP.sub [2, 0, 1] rfl) (hD.sub [2, 0, 1] (by decide) rfl) hS (isb_n (v := 0) (by decide)) d_Ma_fetch_53
  · have hf := ifn cx hf
    refine lv_aload_n hx hb d_Ma_fetch_28 rfl (lv_at hl 1 rfl) ?_
    refine lv_iload_n hx hb d_Ma_fetch_29 rfl (lv_at hl 0 rfl) ?_
    obtain ⟨v4, hc, hf⟩ := bdp1 hf
    refine q_al (wr := [(a_main, .inl (cy 1, 204, .inl u1))]) (va_runV (C := "CoinKeeper$Machine") (As := [.int v2]) (rest := []) ⟨hx, hb, hml, hown, hts⟩ (c_Ma_numberOf l D cy ad fu o v_o_sha r_signatures v_o_ripemd v_a_scriptEnd (.ref a_main) v_a_other v_a_taken r_layout r_coin a_data v1 i_otherHeight i_ops i_ifs i_ifsNotTaken i_free i_tx i_in i_messageIsThere g_data v2 _ hc H.size) ⟨q_cB hts gw_1018 gw_6 gw_1015 hdc_45 ⟨by decide, by decide⟩, hts _ gw_1017, hts _ gs_34⟩ (q_preV (q_pre (hP.sub [2, 0] rfl) (hD.sub [2, 0] (by decide) rfl) hK hSt hS (va_free hD hS hA [2, 0] rfl) _) (va_recv hK (hP.sub [2, 0] rfl) (ci := 6) (q0 := 0) rfl rfl)) rfl rfl hl.1 rfl (lv_room (Nat.le_of_ble_eq_true rfl)) d_Ma_fetch_30 ⟨Nat.le_of_ble_eq_true rfl, Nat.le_of_ble_eq_true rfl⟩) hP hD hS hA [2, 0] [1] rfl rfl (by decide) (by decide) (fun H locs hP hD hS => ?_)
    clear hc
    have hP : va_P D classes [(a_main, .inl (cy 1, 204, .inl u1)), (o, .inr (6, [v_o_sha, r_signatures, v_o_ripemd, .ref a_data, v_a_scriptEnd, .ref a_main, v_a_other, v_a_taken, .int v1, .int i_otherHeight, .int i_ops, .int i_ifs, .int i_ifsNotTaken, .int i_free, r_layout, .int i_tx, .int i_in, r_coin, .int i_messageIsThere])), (a_data, .inl (cy 0, 14928, .inl g_data))] H := hP
    have hD : va_D A [(a_main, .inl (cy 1, 204, .inl u1)), (o, .inr (6, [v_o_sha, r_signatures, v_o_ripemd, .ref a_data, v_a_scriptEnd, .ref a_main, v_a_other, v_a_taken, .int v1, .int i_otherHeight, .int i_ops, .int i_ifs, .int i_ifsNotTaken, .int i_free, r_layout, .int i_tx, .int i_in, r_coin, .int i_messageIsThere])), (a_data, .inl (cy 0, 14928, .inl g_data))] := hD
    refine lv_lconst (v := 0) hx hb d_Ma_fetch_33 (by decide) ?_
    refine W.lcmp hx hb d_Ma_fetch_34 ?_
    refine lv_if_lt (tgt := 52) hx hb d_Ma_fetch_35 (by decide) (fun cx => ?_) (fun cx => ?_)
    · have hf := ifp cx hf
      refine lv_iconst (v := 0) hx hb d_Ma_fetch_52 (by decide) ?_
      obtain rfl := Option.some.inj hf
      exact q_rz hx hb hr hlocks hK (hP.sub [1, 2, 0] rfl) (hD.sub [1, 2, 0] (by decide) rfl) hS (isb_n (v := 0) (by decide)) d_Ma_fetch_53
    · have hf := ifn cx hf
      refine lv_aload_n hx hb d_Ma_fetch_38 rfl (lv_at hl 1 rfl) ?_
      refine lv_iload_n hx hb d_Ma_fetch_39 rfl (lv_at hl 0 rfl) ?_
      obtain ⟨v5, hc, hf⟩ := bdp1 hf
      refine q_al (wr := [(a_main, .inl (cy 1, 204, .inl u1))]) (va_runV (C := "CoinKeeper$Machine") (As := [.int v2]) (rest := []) ⟨hx, hb, hml, hown, hts⟩ (c_Ma_numberOf l D cy ad fu o v_o_sha r_signatures v_o_ripemd v_a_scriptEnd (.ref a_main) v_a_other v_a_taken r_layout r_coin a_data v1 i_otherHeight i_ops i_ifs i_ifsNotTaken i_free i_tx i_in i_messageIsThere g_data v2 _ hc H.size) ⟨q_cB hts gw_1018 gw_6 gw_1015 hdc_45 ⟨by decide, by decide⟩, hts _ gw_1017, hts _ gs_34⟩ (q_preV (q_pre (hP.sub [1, 2] rfl) (hD.sub [1, 2] (by decide) rfl) hK hSt hS (va_free hD hS hA [1, 2] rfl) _) (va_recv hK (hP.sub [1, 2] rfl) (ci := 6) (q0 := 0) rfl rfl)) rfl rfl hl.1 rfl (lv_room (Nat.le_of_ble_eq_true rfl)) d_Ma_fetch_40 ⟨Nat.le_of_ble_eq_true rfl, Nat.le_of_ble_eq_true rfl⟩) hP hD hS hA [1, 2] [0] rfl rfl (by decide) (by decide) (fun H locs hP hD hS => ?_)
      clear hc
      have hP : va_P D classes [(a_main, .inl (cy 1, 204, .inl u1)), (o, .inr (6, [v_o_sha, r_signatures, v_o_ripemd, .ref a_data, v_a_scriptEnd, .ref a_main, v_a_other, v_a_taken, .int v1, .int i_otherHeight, .int i_ops, .int i_ifs, .int i_ifsNotTaken, .int i_free, r_layout, .int i_tx, .int i_in, r_coin, .int i_messageIsThere])), (a_data, .inl (cy 0, 14928, .inl g_data))] H := hP
      have hD : va_D A [(a_main, .inl (cy 1, 204, .inl u1)), (o, .inr (6, [v_o_sha, r_signatures, v_o_ripemd, .ref a_data, v_a_scriptEnd, .ref a_main, v_a_other, v_a_taken, .int v1, .int i_otherHeight, .int i_ops, .int i_ifs, .int i_ifsNotTaken, .int i_free, r_layout, .int i_tx, .int i_in, r_coin, .int i_messageIsThere])), (a_data, .inl (cy 0, 14928, .inl g_data))] := hD
      refine lv_aload_n hx hb d_Ma_fetch_43 rfl (lv_at hl 1 rfl) ?_
      refine va_get (D := D) (ci := 6) (v := .int v1) (C := "CoinKeeper$Machine") (T := F_6) (N := 19) hx hb hts i_6 hown hK hP 1 rfl rfl 8 (by decide) (hts _ gw_212) (fun _ h9 => h9) rfl d_Ma_fetch_44 ?_
      refine lv_i2l hx hb d_Ma_fetch_47 rfl ?_
      refine W.lcmp hx hb d_Ma_fetch_48 ?_
      refine lv_if_lt (tgt := 54) hx hb d_Ma_fetch_49 (by decide) (fun cx => ?_) (fun cx => ?_)
      · have hf := ifp cx hf
        refine lv_aload_n hx hb d_Ma_fetch_54 rfl (lv_at hl 1 rfl) ?_
        refine va_get (D := D) (ci := 6) (v := .int v1) (C := "CoinKeeper$Machine") (T := F_6) (N := 19) hx hb hts i_6 hown hK hP 1 rfl rfl 8 (by decide) (hts _ gw_212) (fun _ h9 => h9) rfl d_Ma_fetch_55 ?_
        refine lv_iconst (v := 1) hx hb d_Ma_fetch_58 (by decide) ?_
        refine lv_isub hx hb d_Ma_fetch_59 ?_
        refine lv_topi (fun v6 ev => ?_)
        have hf := bn ev hf
        clear ev
        refine lv_aload_n hx hb d_Ma_fetch_60 rfl (lv_at hl 1 rfl) ?_
        refine lv_iload_n hx hb d_Ma_fetch_61 rfl (lv_at hl 0 rfl) ?_
        obtain ⟨v7, hc, hf⟩ := bdp1 hf
        refine q_al (wr := [(a_main, .inl (cy 1, 204, .inl u1))]) (va_runV (C := "CoinKeeper$Machine") (As := [.int v2]) (rest := [.int v6]) ⟨hx, hb, hml, hown, hts⟩ (c_Ma_numberOf l D cy ad fu o v_o_sha r_signatures v_o_ripemd v_a_scriptEnd (.ref a_main) v_a_other v_a_taken r_layout r_coin a_data v1 i_otherHeight i_ops i_ifs i_ifsNotTaken i_free i_tx i_in i_messageIsThere g_data v2 _ hc H.size) ⟨q_cB hts gw_1018 gw_6 gw_1015 hdc_45 ⟨by decide, by decide⟩, hts _ gw_1017, hts _ gs_34⟩ (q_preV (q_pre (hP.sub [1, 2] rfl) (hD.sub [1, 2] (by decide) rfl) hK hSt hS (va_free hD hS hA [1, 2] rfl) _) (va_recv hK (hP.sub [1, 2] rfl) (ci := 6) (q0 := 0) rfl rfl)) rfl rfl hl.1 rfl (lv_room (Nat.le_of_ble_eq_true rfl)) d_Ma_fetch_62 ⟨Nat.le_of_ble_eq_true rfl, Nat.le_of_ble_eq_true rfl⟩) hP hD hS hA [1, 2] [0] rfl rfl (by decide) (by decide) (fun H locs hP hD hS => ?_)
        clear hc
        have hP : va_P D classes [(a_main, .inl (cy 1, 204, .inl u1)), (o, .inr (6, [v_o_sha, r_signatures, v_o_ripemd, .ref a_data, v_a_scriptEnd, .ref a_main, v_a_other, v_a_taken, .int v1, .int i_otherHeight, .int i_ops, .int i_ifs, .int i_ifsNotTaken, .int i_free, r_layout, .int i_tx, .int i_in, r_coin, .int i_messageIsThere])), (a_data, .inl (cy 0, 14928, .inl g_data))] H := hP
        have hD : va_D A [(a_main, .inl (cy 1, 204, .inl u1)), (o, .inr (6, [v_o_sha, r_signatures, v_o_ripemd, .ref a_data, v_a_scriptEnd, .ref a_main, v_a_other, v_a_taken, .int v1, .int i_otherHeight, .int i_ops, .int i_ifs, .int i_ifsNotTaken, .int i_free, r_layout, .int i_tx, .int i_in, r_coin, .int i_messageIsThere])), (a_data, .inl (cy 0, 14928, .inl g_data))] := hD
        refine lv_l2i hx hb d_Ma_fetch_65 rfl ?_
        refine lv_isub hx hb d_Ma_fetch_66 ?_
        refine lv_topi (fun v8 ev => ?_)
        have hf := bn ev hf
        clear ev
        refine lv_istore_n (lv' := [(3, .int v8), (2, .int v2), (0, .ref o), (1, .int a1)]) hx hb d_Ma_fetch_67 rfl hl (by decide) rfl (fun ls hl => ?_)
        refine lv_aload_n hx hb d_Ma_fetch_68 rfl (lv_at hl 2 rfl) ?_
        refine va_get (D := D) (ci := 6) (v := .ref a_main) (C := "CoinKeeper$Machine") (T := F_6) (N := 19) hx hb hts i_6 hown hK hP 1 rfl rfl 5 (by decide) (hts _ gw_209) (fun _ h9 => h9) rfl d_Ma_fetch_69 ?_
        refine lv_iload_n hx hb d_Ma_fetch_72 rfl (lv_at hl 0 rfl) ?_
        obtain ⟨hg, hf⟩ := gdp hf
        refine va_iald hx hb hK hP 0 1 rfl rfl (inb_in hg) d_Ma_fetch_73 ?_
        refine lv_topi (fun v9 ev => ?_)
        have hf := bn ev hf
        clear ev
        refine lv_istore (lv' := [(4, .int v9), (3, .int v8), (2, .int v2), (0, .ref o), (1, .int a1)]) hx hb d_Ma_fetch_74 hl (by decide) rfl (fun ls hl => ?_)
        refine lv_iload_n hx hb d_Ma_fetch_76 rfl (lv_at hl 4 rfl) ?_
        refine lv_bipush (v := 122) hx hb d_Ma_fetch_77 (by decide) ?_
        refine lv_icmp_ne (tgt := 113) hx hb d_Ma_fetch_79 (by decide) (fun cx => ?_) (fun cx => ?_)
        · have hf := ifn cx hf
          exact wb_Ma_fetch_113 (fu := fu) F _ _ _ _ hf _ _ _ (hP.sub (ws' := [(o, .inr (6, [v_o_sha, r_signatures, v_o_ripemd, .ref a_data, v_a_scriptEnd, .ref a_main, v_a_other, v_a_taken, .int v1, .int i_otherHeight, .int i_ops, .int i_ifs, .int i_ifsNotTaken, .int i_free, r_layout, .int i_tx, .int i_in, r_coin, .int i_messageIsThere])), (a_data, .inl (cy 0, 14928, .inl g_data)), (a_main, .inl (cy 1, 204, .inl u1))]) [1, 2, 0] rfl) (hD.sub (ws' := [(o, .inr (6, [v_o_sha, r_signatures, v_o_ripemd, .ref a_data, v_a_scriptEnd, .ref a_main, v_a_other, v_a_taken, .int v1, .int i_otherHeight, .int i_ops, .int i_ifs, .int i_ifsNotTaken, .int i_free, r_layout, .int i_tx, .int i_in, r_coin, .int i_messageIsThere])), (a_data, .inl (cy 0, 14928, .inl g_data)), (a_main, .inl (cy 1, 204, .inl u1))]) [1, 2, 0] (by decide) rfl) hS (lv_sub hl [3, 0] rfl)
        · have hf := ifp cx hf
          refine lv_aload_n hx hb d_Ma_fetch_82 rfl (lv_at hl 3 rfl) ?_
          refine lv_dup hx hb d_Ma_fetch_83 rfl ?_
          refine va_get (D := D) (ci := 6) (v := .int v1) (C := "CoinKeeper$Machine") (T := F_6) (N := 19) hx hb hts i_6 hown hK hP 1 rfl rfl 8 (by decide) (hts _ gw_212) (fun _ h9 => h9) rfl d_Ma_fetch_84 ?_
          refine lv_iconst (v := 1) hx hb d_Ma_fetch_87 (by decide) ?_
          refine lv_isub hx hb d_Ma_fetch_88 ?_
          refine lv_topi (fun v10 ev => ?_)
          have hf := bn ev hf
          clear ev
          refine va_put (D := D) (ci := 6) (v := .int v10) (ty := .int) (C := "CoinKeeper$Machine") (T := F_6) (N := 19) hx hb hts i_6 t_6 t_6_ok n_6 hown hK hP hD hS 1 rfl rfl 8 (by decide) (hts _ gw_212) (fun _ h9 => h9) rfl (by decide +kernel) rfl rfl (Nat.le_of_ble_eq_true rfl) d_Ma_fetch_89 (fun H locs hP hD hS => ?_)
          have hP : va_P D classes [(a_main, .inl (cy 1, 204, .inl u1)), (o, .inr (6, [v_o_sha, r_signatures, v_o_ripemd, .ref a_data, v_a_scriptEnd, .ref a_main, v_a_other, v_a_taken, .int v10, .int i_otherHeight, .int i_ops, .int i_ifs, .int i_ifsNotTaken, .int i_free, r_layout, .int i_tx, .int i_in, r_coin, .int i_messageIsThere])), (a_data, .inl (cy 0, 14928, .inl g_data))] H := hP
          have hD : va_D A [(a_main, .inl (cy 1, 204, .inl u1)), (o, .inr (6, [v_o_sha, r_signatures, v_o_ripemd, .ref a_data, v_a_scriptEnd, .ref a_main, v_a_other, v_a_taken, .int v10, .int i_otherHeight, .int i_ops, .int i_ifs, .int i_ifsNotTaken, .int i_free, r_layout, .int i_tx, .int i_in, r_coin, .int i_messageIsThere])), (a_data, .inl (cy 0, 14928, .inl g_data))] := hD
          refine lv_aload_n hx hb d_Ma_fetch_92 rfl (lv_at hl 3 rfl) ?_
          refine va_get (D := D) (ci := 6) (v := .ref a_main) (C := "CoinKeeper$Machine") (T := F_6) (N := 19) hx hb hts i_6 hown hK hP 1 rfl rfl 5 (by decide) (hts _ gw_209) (fun _ h9 => h9) rfl d_Ma_fetch_93 ?_
          refine lv_iload_n hx hb d_Ma_fetch_96 rfl (lv_at hl 1 rfl) ?_
          refine lv_iconst (v := 1) hx hb d_Ma_fetch_97 (by decide) ?_
          refine lv_iadd hx hb d_Ma_fetch_98 ?_
          refine lv_topi (fun v11 ev => ?_)
          have hf := bn ev hf
          clear ev
          refine lv_aload_n hx hb d_Ma_fetch_99 rfl (lv_at hl 3 rfl) ?_
          refine va_get (D := D) (ci := 6) (v := .ref a_main) (C := "CoinKeeper$Machine") (T := F_6) (N := 19) hx hb hts i_6 hown hK hP 1 rfl rfl 5 (by decide) (hts _ gw_209) (fun _ h9 => h9) rfl d_Ma_fetch_100 ?_
          refine lv_iload_n hx hb d_Ma_fetch_103 rfl (lv_at hl 1 rfl) ?_
          refine lv_aload_n hx hb d_Ma_fetch_104 rfl (lv_at hl 3 rfl) ?_
          refine va_get (D := D) (ci := 6) (v := .int v10) (C := "CoinKeeper$Machine") (T := F_6) (N := 19) hx hb hts i_6 hown hK hP 1 rfl rfl 8 (by decide) (hts _ gw_212) (fun _ h9 => h9) rfl d_Ma_fetch_105 ?_
          refine lv_iload_n hx hb d_Ma_fetch_108 rfl (lv_at hl 1 rfl) ?_
          refine lv_isub hx hb d_Ma_fetch_109 ?_
          refine lv_topi (fun v12 ev => ?_)
          have hf := bn ev hf
          clear ev
          obtain ⟨hg, hf⟩ := gdp hf
          refine va_copyi (rest := []) hx hb (hml.trans hl.1.symm) hown (hts _ gw_976) (hts _ gw_497) (hts _ gw_496) (hts _ gw_17) hK hP hD hS 0 0 1 1 rfl rfl rfl rfl rfl (cpk_p hg).1 (cpk_p hg).2.1 (cpk_p hg).2.2.1 (cpk_p hg).2.2.2.1 (cpk_p hg).2.2.2.2 (fun _ _ => rfl) (by decide) (by decide) d_Ma_fetch_110 (fun H locs hP hD hS => ?_)
          obtain ⟨f13, ev, hf⟩ := bne hf
          have hP : va_P D classes [(a_main, .inl (cy 1, 204, .inl f13)), (o, .inr (6, [v_o_sha, r_signatures, v_o_ripemd, .ref a_data, v_a_scriptEnd, .ref a_main, v_a_other, v_a_taken, .int v10, .int i_otherHeight, .int i_ops, .int i_ifs, .int i_ifsNotTaken, .int i_free, r_layout, .int i_tx, .int i_in, r_coin, .int i_messageIsThere])), (a_data, .inl (cy 0, 14928, .inl g_data))] H := by rw [ev]; exact hP
          have hD : va_D A [(a_main, .inl (cy 1, 204, .inl f13)), (o, .inr (6, [v_o_sha, r_signatures, v_o_ripemd, .ref a_data, v_a_scriptEnd, .ref a_main, v_a_other, v_a_taken, .int v10, .int i_otherHeight, .int i_ops, .int i_ifs, .int i_ifsNotTaken, .int i_free, r_layout, .int i_tx, .int i_in, r_coin, .int i_messageIsThere])), (a_data, .inl (cy 0, 14928, .inl g_data))] := by rw [ev]; exact hD
          clear ev
          exact wb_Ma_fetch_113 (fu := fu) F _ _ _ _ hf _ _ _ (hP.sub (ws' := [(o, .inr (6, [v_o_sha, r_signatures, v_o_ripemd, .ref a_data, v_a_scriptEnd, .ref a_main, v_a_other, v_a_taken, .int v10, .int i_otherHeight, .int i_ops, .int i_ifs, .int i_ifsNotTaken, .int i_free, r_layout, .int i_tx, .int i_in, r_coin, .int i_messageIsThere])), (a_data, .inl (cy 0, 14928, .inl g_data)), (a_main, .inl (cy 1, 204, .inl f13))]) [1, 2, 0] rfl) (hD.sub (ws' := [(o, .inr (6, [v_o_sha, r_signatures, v_o_ripemd, .ref a_data, v_a_scriptEnd, .ref a_main, v_a_other, v_a_taken, .int v10, .int i_otherHeight, .int i_ops, .int i_ifs, .int i_ifsNotTaken, .int i_free, r_layout, .int i_tx, .int i_in, r_coin, .int i_messageIsThere])), (a_data, .inl (cy 0, 14928, .inl g_data)), (a_main, .inl (cy 1, 204, .inl f13))]) [1, 2, 0] (by decide) rfl) hS (lv_sub hl [3, 0] rfl)
      · have hf := ifn cx hf
        refine lv_iconst (v := 0) hx hb d_Ma_fetch_52 (by decide) ?_
        obtain rfl := Option.some.inj hf
        exact q_rz hx hb hr hlocks hK (hP.sub [1, 2, 0] rfl) (hD.sub [1, 2, 0] (by decide) rfl) hS (isb_n (v := 0) (by decide)) d_Ma_fetch_53
theorem c_Ma_fetch (l : Launch) (D : va_G) (cy : Nat → ClassId) (ad : Nat → Nat) (fu : Nat) (o : Nat) (v_o_sha : Value) (r_signatures : Value) (v_o_ripemd : Value) (v_a_scriptEnd : Value) (v_a_other : Value) (v_a_taken : Value) (r_layout : Value) (r_coin : Value) (a_data : Nat) (a_main : Nat) (i_otherHeight : Int32) (i_ops : Int32) (i_ifs : Int32) (i_ifsNotTaken : Int32) (i_free : Int32) (i_tx : Int32) (i_in : Int32) (i_messageIsThere : Int32) (g_data : Nat → Int32) (a1 : Int32) (u0 : Int32) (u1 : Nat → Int32) (res : Int32 × Int32 × (Nat → Int32)) (hf : x_Ma_fetch fu i_otherHeight i_ops i_ifs i_ifsNotTaken i_free i_tx i_in i_messageIsThere g_data a1 u0 u1 = some res) (sz : Nat) : Met l ({ cls := "CoinKeeper$Machine", name := "fetch", desc := "(I)Z" } : Jvm.MethodName) (.code ({ cls := "CoinKeeper$Machine", name := "fetch", desc := "(I)Z" } : Jvm.MethodName) b_Ma_fetch 5 (some .boolean) :: gw) rm_Ma_fetch (va_Pc [.ref o, .int a1] (Pr D cy ad [(o, .inr (6, [v_o_sha, r_signatures, v_o_ripemd, .ref a_data, v_a_scriptEnd, .ref a_main, v_a_other, v_a_taken, .int u0, .int i_otherHeight, .int i_ops, .int i_ifs, .int i_ifsNotTaken, .int i_free, r_layout, .int i_tx, .int i_in, r_coin, .int i_messageIsThere])), (a_data, .inl (cy 0, 14928, .inl g_data)), (a_main, .inl (cy 1, 204, .inl u1))] sz)) (q_Ma_fetch D cy (va_A [(o, .inr (6, [v_o_sha, r_signatures, v_o_ripemd, .ref a_data, v_a_scriptEnd, .ref a_main, v_a_other, v_a_taken, .int u0, .int i_otherHeight, .int i_ops, .int i_ifs, .int i_ifsNotTaken, .int i_free, r_layout, .int i_tx, .int i_in, r_coin, .int i_messageIsThere])), (a_data, .inl (cy 0, 14928, .inl g_data)), (a_main, .inl (cy 1, 204, .inl u1))] sz) o v_o_sha r_signatures v_o_ripemd v_a_scriptEnd v_a_other v_a_taken r_layout r_coin a_data a_main i_otherHeight i_ops i_ifs i_ifsNotTaken i_free i_tx i_in i_messageIsThere g_data res) 0 0 (va_A [(o, .inr (6, [v_o_sha, r_signatures, v_o_ripemd, .ref a_data, v_a_scriptEnd, .ref a_main, v_a_other, v_a_taken, .int u0, .int i_otherHeight, .int i_ops, .int i_ifs, .int i_ifsNotTaken, .int i_free, r_layout, .int i_tx, .int i_in, r_coin, .int i_messageIsThere])), (a_data, .inl (cy 0, 14928, .inl g_data)), (a_main, .inl (cy 1, 204, .inl u1))] sz) :=
  q_met (Qc := fun A => q_Ma_fetch D cy A o v_o_sha r_signatures v_o_ripemd v_a_scriptEnd v_a_other v_a_taken r_layout r_coin a_data a_main i_otherHeight i_ops i_ifs i_ifsNotTaken i_free i_tx i_in i_messageIsThere g_data res) (by decide) rfl rfl (Nat.le_of_ble_eq_true rfl) (fun p e s m below meth c ls F hP hD hS hl => we_Ma_fetch (fu := fu) F a1 u0 u1 res hf _ _ _ hP hD hS hl) sz
