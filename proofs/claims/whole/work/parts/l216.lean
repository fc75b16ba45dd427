abbrev b_Ma_perform : ByteArray := prog_7_method_15_code
theorem d_Ma_perform_0 : decode b_Ma_perform 0 = .ok (.iload_n 1, 1) := by decide +kernel
theorem d_Ma_perform_1 : decode b_Ma_perform 1 = .ok (.bipush 96, 2) := by decide +kernel
theorem d_Ma_perform_3 : decode b_Ma_perform 3 = .ok (.if_icmp .gt 9, 3) := by decide +kernel
theorem d_Ma_perform_6 : decode b_Ma_perform 6 = .ok (.aload_n 0, 1) := by decide +kernel
theorem d_Ma_perform_7 : decode b_Ma_perform 7 = .ok (.iload_n 1, 1) := by decide +kernel
theorem d_Ma_perform_8 : decode b_Ma_perform 8 = .ok (.invokevirtual 126, 3) := by decide +kernel
theorem d_Ma_perform_11 : decode b_Ma_perform 11 = .ok (.ireturn, 1) := by decide +kernel
theorem d_Ma_perform_12 : decode b_Ma_perform 12 = .ok (.iload_n 1, 1) := by decide +kernel
theorem d_Ma_perform_13 : decode b_Ma_perform 13 = .ok (.bipush 97, 2) := by decide +kernel
theorem d_Ma_perform_15 : decode b_Ma_perform 15 = .ok (.if_icmp .ne 5, 3) := by decide +kernel
theorem d_Ma_perform_18 : decode b_Ma_perform 18 = .ok (.iconst 1, 1) := by decide +kernel
theorem d_Ma_perform_19 : decode b_Ma_perform 19 = .ok (.ireturn, 1) := by decide +kernel
theorem d_Ma_perform_20 : decode b_Ma_perform 20 = .ok (.iload_n 1, 1) := by decide +kernel
theorem d_Ma_perform_21 : decode b_Ma_perform 21 = .ok (.bipush 105, 2) := by decide +kernel
theorem d_Ma_perform_23 : decode b_Ma_perform 23 = .ok (.if_icmp .ne 8, 3) := by decide +kernel
theorem d_Ma_perform_26 : decode b_Ma_perform 26 = .ok (.aload_n 0, 1) := by decide +kernel
theorem d_Ma_perform_27 : decode b_Ma_perform 27 = .ok (.invokevirtual 129, 3) := by decide +kernel
theorem d_Ma_perform_30 : decode b_Ma_perform 30 = .ok (.ireturn, 1) := by decide +kernel
theorem d_Ma_perform_31 : decode b_Ma_perform 31 = .ok (.iload_n 1, 1) := by decide +kernel
theorem d_Ma_perform_32 : decode b_Ma_perform 32 = .ok (.bipush 107, 2) := by decide +kernel
theorem d_Ma_perform_34 : decode b_Ma_perform 34 = .ok (.if_icmp .eq 9, 3) := by decide +kernel
theorem d_Ma_perform_37 : decode b_Ma_perform 37 = .ok (.iload_n 1, 1) := by decide +kernel
theorem d_Ma_perform_38 : decode b_Ma_perform 38 = .ok (.bipush 108, 2) := by decide +kernel
theorem d_Ma_perform_40 : decode b_Ma_perform 40 = .ok (.if_icmp .ne 21, 3) := by decide +kernel
theorem d_Ma_perform_43 : decode b_Ma_perform 43 = .ok (.iload_n 1, 1) := by decide +kernel
theorem d_Ma_perform_44 : decode b_Ma_perform 44 = .ok (.bipush 107, 2) := by decide +kernel
theorem d_Ma_perform_46 : decode b_Ma_perform 46 = .ok (.if_icmp .ne 10, 3) := by decide +kernel
theorem d_Ma_perform_49 : decode b_Ma_perform 49 = .ok (.aload_n 0, 1) := by decide +kernel
theorem d_Ma_perform_50 : decode b_Ma_perform 50 = .ok (.invokevirtual 133, 3) := by decide +kernel
theorem d_Ma_perform_53 : decode b_Ma_perform 53 = .ok (.goto 7, 3) := by decide +kernel
theorem d_Ma_perform_56 : decode b_Ma_perform 56 = .ok (.aload_n 0, 1) := by decide +kernel
theorem d_Ma_perform_57 : decode b_Ma_perform 57 = .ok (.invokevirtual 136, 3) := by decide +kernel
theorem d_Ma_perform_60 : decode b_Ma_perform 60 = .ok (.ireturn, 1) := by decide +kernel
theorem d_Ma_perform_61 : decode b_Ma_perform 61 = .ok (.iload_n 1, 1) := by decide +kernel
theorem d_Ma_perform_62 : decode b_Ma_perform 62 = .ok (.sipush 130, 3) := by decide +kernel
theorem d_Ma_perform_65 : decode b_Ma_perform 65 = .ok (.if_icmp .gt 9, 3) := by decide +kernel
theorem d_Ma_perform_68 : decode b_Ma_perform 68 = .ok (.aload_n 0, 1) := by decide +kernel
theorem d_Ma_perform_69 : decode b_Ma_perform 69 = .ok (.iload_n 1, 1) := by decide +kernel
theorem d_Ma_perform_70 : decode b_Ma_perform 70 = .ok (.invokevirtual 139, 3) := by decide +kernel
theorem d_Ma_perform_73 : decode b_Ma_perform 73 = .ok (.ireturn, 1) := by decide +kernel
theorem d_Ma_perform_74 : decode b_Ma_perform 74 = .ok (.iload_n 1, 1) := by decide +kernel
theorem d_Ma_perform_75 : decode b_Ma_perform 75 = .ok (.sipush 135, 3) := by decide +kernel
theorem d_Ma_perform_78 : decode b_Ma_perform 78 = .ok (.if_icmp .eq 10, 3) := by decide +kernel
theorem d_Ma_perform_81 : decode b_Ma_perform 81 = .ok (.iload_n 1, 1) := by decide +kernel
theorem d_Ma_perform_82 : decode b_Ma_perform 82 = .ok (.sipush 136, 3) := by decide +kernel
theorem d_Ma_perform_85 : decode b_Ma_perform 85 = .ok (.if_icmp .ne 9, 3) := by decide +kernel
theorem d_Ma_perform_88 : decode b_Ma_perform 88 = .ok (.aload_n 0, 1) := by decide +kernel
theorem d_Ma_perform_89 : decode b_Ma_perform 89 = .ok (.iload_n 1, 1) := by decide +kernel
theorem d_Ma_perform_90 : decode b_Ma_perform 90 = .ok (.invokevirtual 142, 3) := by decide +kernel
theorem d_Ma_perform_93 : decode b_Ma_perform 93 = .ok (.ireturn, 1) := by decide +kernel
theorem d_Ma_perform_94 : decode b_Ma_perform 94 = .ok (.iload_n 1, 1) := by decide +kernel
theorem d_Ma_perform_95 : decode b_Ma_perform 95 = .ok (.sipush 146, 3) := by decide +kernel
theorem d_Ma_perform_98 : decode b_Ma_perform 98 = .ok (.if_icmp .gt 9, 3) := by decide +kernel
theorem d_Ma_perform_101 : decode b_Ma_perform 101 = .ok (.aload_n 0, 1) := by decide +kernel
theorem d_Ma_perform_102 : decode b_Ma_perform 102 = .ok (.iload_n 1, 1) := by decide +kernel
theorem d_Ma_perform_103 : decode b_Ma_perform 103 = .ok (.invokevirtual 145, 3) := by decide +kernel
theorem d_Ma_perform_106 : decode b_Ma_perform 106 = .ok (.ireturn, 1) := by decide +kernel
theorem d_Ma_perform_107 : decode b_Ma_perform 107 = .ok (.iload_n 1, 1) := by decide +kernel
theorem d_Ma_perform_108 : decode b_Ma_perform 108 = .ok (.sipush 164, 3) := by decide +kernel
theorem d_Ma_perform_111 : decode b_Ma_perform 111 = .ok (.if_icmp .gt 9, 3) := by decide +kernel
theorem d_Ma_perform_114 : decode b_Ma_perform 114 = .ok (.aload_n 0, 1) := by decide +kernel
theorem d_Ma_perform_115 : decode b_Ma_perform 115 = .ok (.iload_n 1, 1) := by decide +kernel
theorem d_Ma_perform_116 : decode b_Ma_perform 116 = .ok (.invokevirtual 148, 3) := by decide +kernel
theorem d_Ma_perform_119 : decode b_Ma_perform 119 = .ok (.ireturn, 1) := by decide +kernel
theorem d_Ma_perform_120 : decode b_Ma_perform 120 = .ok (.iload_n 1, 1) := by decide +kernel
theorem d_Ma_perform_121 : decode b_Ma_perform 121 = .ok (.sipush 165, 3) := by decide +kernel
theorem d_Ma_perform_124 : decode b_Ma_perform 124 = .ok (.if_icmp .ne 10, 3) := by decide +kernel
theorem d_Ma_perform_127 : decode b_Ma_perform 127 = .ok (.aload_n 0, 1) := by decide +kernel
theorem d_Ma_perform_128 : decode b_Ma_perform 128 = .ok (.invokevirtual 151, 3) := by decide +kernel
theorem d_Ma_perform_131 : decode b_Ma_perform 131 = .ok (.goto 8, 3) := by decide +kernel
theorem d_Ma_perform_134 : decode b_Ma_perform 134 = .ok (.aload_n 0, 1) := by decide +kernel
theorem d_Ma_perform_135 : decode b_Ma_perform 135 = .ok (.iload_n 1, 1) := by decide +kernel
theorem d_Ma_perform_136 : decode b_Ma_perform 136 = .ok (.invokevirtual 154, 3) := by decide +kernel
theorem d_Ma_perform_139 : decode b_Ma_perform 139 = .ok (.ireturn, 1) := by decide +kernel
abbrev rm_Ma_perform : Room := { frames := 4, cells := 0, slots := 0, locals := 112 }
abbrev q_Ma_perform (D : va_G) (cy : Nat → ClassId) (A : Nat → Prop) (o : Nat) (r_signatures : Value) (v_a_scriptEnd : Value) (v_a_taken : Value) (r_layout : Value) (r_coin : Value) (o_sha : Nat) (a_sha_state : Nat) (a_sha_w : Nat) (a_sha_chunk : Nat) (o_ripemd : Nat) (a_ripemd_state : Nat) (a_ripemd_left : Nat) (a_ripemd_right : Nat) (a_ripemd_x : Nat) (a_data : Nat) (a_main : Nat) (a_other : Nat) (i_ops : Int32) (i_ifs : Int32) (i_ifsNotTaken : Int32) (i_tx : Int32) (i_in : Int32) (i_messageIsThere : Int32) (res : Int32 × Int32 × Int32 × Int32 × Int32 × Int64 × (Nat → Int32) × (Nat → Int32) × (Nat → Int32) × (Nat → Int32) × (Nat → Int32) × (Nat → Int32) × (Nat → Int32) × (Nat → Int32) × (Nat → Int32) × (Nat → Int32)) : Array Value → State → Outcome → State → Prop := va_Qi (fun r' (_ : Unit) => r' = res.1) (fun _ t => Po D cy A [(o, .inr (6, [.ref o_sha, r_signatures, .ref o_ripemd, .ref a_data, v_a_scriptEnd, .ref a_main, .ref a_other, v_a_taken, .int res.2.1, .int res.2.2.1, .int i_ops, .int i_ifs, .int i_ifsNotTaken, .int res.2.2.2.1, r_layout, .int i_tx, .int i_in, r_coin, .int i_messageIsThere])), (o_sha, .inr (9, [.ref a_sha_state, .ref a_sha_w, .ref a_sha_chunk, .int res.2.2.2.2.1, .long res.2.2.2.2.2.1])), (a_sha_state, .inl (cy 1, 8, .inl res.2.2.2.2.2.2.1)), (a_sha_w, .inl (cy 1, 64, .inl res.2.2.2.2.2.2.2.1)), (a_sha_chunk, .inl (cy 0, 64, .inl res.2.2.2.2.2.2.2.2.1)), (o_ripemd, .inr (8, [.ref a_ripemd_state, .ref a_ripemd_left, .ref a_ripemd_right, .ref a_ripemd_x])), (a_ripemd_state, .inl (cy 1, 5, .inl res.2.2.2.2.2.2.2.2.2.1)), (a_ripemd_left, .inl (cy 1, 5, .inl res.2.2.2.2.2.2.2.2.2.2.1)), (a_ripemd_right, .inl (cy 1, 5, .inl res.2.2.2.2.2.2.2.2.2.2.2.1)), (a_ripemd_x, .inl (cy 1, 16, .inl res.2.2.2.2.2.2.2.2.2.2.2.2.1)), (a_data, .inl (cy 0, 14928, .inl res.2.2.2.2.2.2.2.2.2.2.2.2.2.1)), (a_main, .inl (cy 1, 204, .inl res.2.2.2.2.2.2.2.2.2.2.2.2.2.2.1)), (a_other, .inl (cy 1, 204, .inl res.2.2.2.2.2.2.2.2.2.2.2.2.2.2.2))] t) A
def I_Ma_perform_43 (p : Program) (l : Launch) (e : Env) (s : State) (m : MethodId) (args : Array Value) (below : List Frame) (meth : Method) (c : Code) (D : va_G) (cy : Nat → ClassId) (A : Nat → Prop) (ad : Nat → Nat) (o : Nat) (r_signatures : Value) (v_a_scriptEnd : Value) (v_a_taken : Value) (r_layout : Value) (r_coin : Value) (o_sha : Nat) (a_sha_state : Nat) (a_sha_w : Nat) (a_sha_chunk : Nat) (o_ripemd : Nat) (a_ripemd_state : Nat) (a_ripemd_left : Nat) (a_ripemd_right : Nat) (a_ripemd_x : Nat) (a_data : Nat) (a_main : Nat) (a_other : Nat) (i_ops : Int32) (i_ifs : Int32) (i_ifsNotTaken : Int32) (i_tx : Int32) (i_in : Int32) (i_messageIsThere : Int32) (k : Int32 → Int32 → Int32 → Int32 → Int32 → Int64 → (Nat → Int32) → (Nat → Int32) → (Nat → Int32) → (Nat → Int32) → (Nat → Int32) → (Nat → Int32) → (Nat → Int32) → (Nat → Int32) → (Nat → Int32) → (Nat → Int32) → Option (Int32 × Int32 × Int32 × Int32 × Int32 × Int64 × (Nat → Int32) × (Nat → Int32) × (Nat → Int32) × (Nat → Int32) × (Nat → Int32) × (Nat → Int32) × (Nat → Int32) × (Nat → Int32) × (Nat → Int32) × (Nat → Int32))) : Prop :=
  ∀ (x1 : Int32) (u0 : Int32) (u1 : Int32) (u2 : Int32) (u3 : Int32) (u4 : Int64) (u5 : Nat → Int32) (u6 : Nat → Int32) (u7 : Nat → Int32) (u8 : Nat → Int32) (u9 : Nat → Int32) (u10 : Nat → Int32) (u11 : Nat → Int32) (u12 : Nat → Int32) (u13 : Nat → Int32) (u14 : Nat → Int32) (res : Int32 × Int32 × Int32 × Int32 × Int32 × Int64 × (Nat → Int32) × (Nat → Int32) × (Nat → Int32) × (Nat → Int32) × (Nat → Int32) × (Nat → Int32) × (Nat → Int32) × (Nat → Int32) × (Nat → Int32) × (Nat → Int32)), k x1 u0 u1 u2 u3 u4 u5 u6 u7 u8 u9 u10 u11 u12 u13 u14 = some res → ∀ (H : Heap) (locs : List Loc) (ls : Array Slot), va_P D classes [(o, .inr (6, [.ref o_sha, r_signatures, .ref o_ripemd, .ref a_data, v_a_scriptEnd, .ref a_main, .ref a_other, v_a_taken, .int u0, .int u1, .int i_ops, .int i_ifs, .int i_ifsNotTaken, .int u2, r_layout, .int i_tx, .int i_in, r_coin, .int i_messageIsThere])), (o_sha, .inr (9, [.ref a_sha_state, .ref a_sha_w, .ref a_sha_chunk, .int u3, .long u4])), (a_sha_state, .inl (cy 1, 8, .inl u5)), (a_sha_w, .inl (cy 1, 64, .inl u6)), (a_sha_chunk, .inl (cy 0, 64, .inl u7)), (o_ripemd, .inr (8, [.ref a_ripemd_state, .ref a_ripemd_left, .ref a_ripemd_right, .ref a_ripemd_x])), (a_ripemd_state, .inl (cy 1, 5, .inl u8)), (a_ripemd_left, .inl (cy 1, 5, .inl u9)), (a_ripemd_right, .inl (cy 1, 5, .inl u10)), (a_ripemd_x, .inl (cy 1, 16, .inl u11)), (a_data, .inl (cy 0, 14928, .inl u12)), (a_main, .inl (cy 1, 204, .inl u13)), (a_other, .inl (cy 1, 204, .inl u14))] H → va_D A [(o, .inr (6, [.ref o_sha, r_signatures, .ref o_ripemd, .ref a_data, v_a_scriptEnd, .ref a_main, .ref a_other, v_a_taken, .int u0, .int u1, .int i_ops, .int i_ifs, .int i_ifsNotTaken, .int u2, r_layout, .int i_tx, .int i_in, r_coin, .int i_messageIsThere])), (o_sha, .inr (9, [.ref a_sha_state, .ref a_sha_w, .ref a_sha_chunk, .int u3, .long u4])), (a_sha_state, .inl (cy 1, 8, .inl u5)), (a_sha_w, .inl (cy 1, 64, .inl u6)), (a_sha_chunk, .inl (cy 0, 64, .inl u7)), (o_ripemd, .inr (8, [.ref a_ripemd_state, .ref a_ripemd_left, .ref a_ripemd_right, .ref a_ripemd_x])), (a_ripemd_state, .inl (cy 1, 5, .inl u8)), (a_ripemd_left, .inl (cy 1, 5, .inl u9)), (a_ripemd_right, .inl (cy 1, 5, .inl u10)), (a_ripemd_x, .inl (cy 1, 16, .inl u11)), (a_data, .inl (cy 0, 14928, .inl u12)), (a_main, .inl (cy 1, 204, .inl u13)), (a_other, .inl (cy 1, 204, .inl u14))] → va_S A s.heap H locs → lv_has ls 2 [(0, .ref o), (1, .int x1)] → W p l e rm_Ma_perform s m args below meth c H locs 0 0 (MQ below (q_Ma_perform D cy A o r_signatures v_a_scriptEnd v_a_taken r_layout r_coin o_sha a_sha_state a_sha_w a_sha_chunk o_ripemd a_ripemd_state a_ripemd_left a_ripemd_right a_ripemd_x a_data a_main a_other i_ops i_ifs i_ifsNotTaken i_tx i_in i_messageIsThere res) args s 0 0 A) (F0 m 43 ls [])
def I_Ma_perform_88 (p : Program) (l : Launch) (e : Env) (s : State) (m : MethodId) (args : Array Value) (below : List Frame) (meth : Method) (c : Code) (D : va_G) (cy : Nat → ClassId) (A : Nat → Prop) (ad : Nat → Nat) (o : Nat) (r_signatures : Value) (v_a_scriptEnd : Value) (v_a_taken : Value) (r_layout : Value) (r_coin : Value) (o_sha : Nat) (a_sha_state : Nat) (a_sha_w : Nat) (a_sha_chunk : Nat) (o_ripemd : Nat) (a_ripemd_state : Nat) (a_ripemd_left : Nat) (a_ripemd_right : Nat) (a_ripemd_x : Nat) (a_data : Nat) (a_main : Nat) (a_other : Nat) (i_ops : Int32) (i_ifs : Int32) (i_ifsNotTaken : Int32) (i_tx : Int32) (i_in : Int32) (i_messageIsThere : Int32) (k : Int32 → Int32 → Int32 → Int32 → Int32 → Int64 → (Nat → Int32) → (Nat → Int32) → (Nat → Int32) → (Nat → Int32) → (Nat → Int32) → (Nat → Int32) → (Nat → Int32) → (Nat → Int32) → (Nat → Int32) → (Nat → Int32) → Option (Int32 × Int32 × Int32 × Int32 × Int32 × Int64 × (Nat → Int32) × (Nat → Int32) × (Nat → Int32) × (Nat → Int32) × (Nat → Int32) × (Nat → Int32) × (Nat → Int32) × (Nat → Int32) × (Nat → Int32) × (Nat → Int32))) : Prop :=
  ∀ (x1 : Int32) (u0 : Int32) (u1 : Int32) (u2 : Int32) (u3 : Int32) (u4 : Int64) (u5 : Nat → Int32) (u6 : Nat → Int32) (u7 : Nat → Int32) (u8 : Nat → Int32) (u9 : Nat → Int32) (u10 : Nat → Int32) (u11 : Nat → Int32) (u12 : Nat → Int32) (u13 : Nat → Int32) (u14 : Nat → Int32) (res : Int32 × Int32 × Int32 × Int32 × Int32 × Int64 × (Nat → Int32) × (Nat → Int32) × (Nat → Int32) × (Nat → Int32) × (Nat → Int32) × (Nat → Int32) × (Nat → Int32) × (Nat → Int32) × (Nat → Int32) × (Nat → Int32)), k x1 u0 u1 u2 u3 u4 u5 u6 u7 u8 u9 u10 u11 u12 u13 u14 = some res → ∀ (H : Heap) (locs : List Loc) (ls : Array Slot), va_P D classes [(o, .inr (6, [.ref o_sha, r_signatures, .ref o_ripemd, .ref a_data, v_a_scriptEnd, .ref a_main, .ref a_other, v_a_taken, .int u0, .int u1, .int i_ops, .int i_ifs, .int i_ifsNotTaken, .int u2, r_layout, .int i_tx, .int i_in, r_coin, .int i_messageIsThere])), (o_sha, .inr (9, [.ref a_sha_state, .ref a_sha_w, .ref a_sha_chunk, .int u3, .long u4])), (a_sha_state, .inl (cy 1, 8, .inl u5)), (a_sha_w, .inl (cy 1, 64, .inl u6)), (a_sha_chunk, .inl (cy 0, 64, .inl u7)), (o_ripemd, .inr (8, [.ref a_ripemd_state, .ref a_ripemd_left, .ref a_ripemd_right, .ref a_ripemd_x])), (a_ripemd_state, .inl (cy 1, 5, .inl u8)), (a_ripemd_left, .inl (cy 1, 5, .inl u9)), (a_ripemd_right, .inl (cy 1, 5, .inl u10)), (a_ripemd_x, .inl (cy 1, 16, .inl u11)), (a_data, .inl (cy 0, 14928, .inl u12)), (a_main, .inl (cy 1, 204, .inl u13)), (a_other, .inl (cy 1, 204, .inl u14))] H → va_D A [(o, .inr (6, [.ref o_sha, r_signatures, .ref o_ripemd, .ref a_data, v_a_scriptEnd, .ref a_main, .ref a_other, v_a_taken, .int u0, .int u1, .int i_ops, .int i_ifs, .int i_ifsNotTaken, .int u2, r_layout, .int i_tx, .int i_in, r_coin, .int i_messageIsThere])), (o_sha, .inr (9, [.ref a_sha_state, .ref a_sha_w, .ref a_sha_chunk, .int u3, .long u4])), (a_sha_state, .inl (cy 1, 8, .inl u5)), (a_sha_w, .inl (cy 1, 64, .inl u6)), (a_sha_chunk, .inl (cy 0, 64, .inl u7)), (o_ripemd, .inr (8, [.ref a_ripemd_state, .ref a_ripemd_left, .ref a_ripemd_right, .ref a_ripemd_x])), (a_ripemd_state, .inl (cy 1, 5, .inl u8)), (a_ripemd_left, .inl (cy 1, 5, .inl u9)), (a_ripemd_right, .inl (cy 1, 5, .inl u10)), (a_ripemd_x, .inl (cy 1, 16, .inl u11)), (a_data, .inl (cy 0, 14928, .inl u12)), (a_main, .inl (cy 1, 204, .inl u13)), (a_other, .inl (cy 1, 204, .inl u14))] → va_S A s.heap H locs → lv_has ls 2 [(0, .ref o), (1, .int x1)] → W p l e rm_Ma_perform s m args below meth c H locs 0 0 (MQ below (q_Ma_perform D cy A o r_signatures v_a_scriptEnd v_a_taken r_layout r_coin o_sha a_sha_state a_sha_w a_sha_chunk o_ripemd a_ripemd_state a_ripemd_left a_ripemd_right a_ripemd_x a_data a_main a_other i_ops i_ifs i_ifsNotTaken i_tx i_in i_messageIsThere res) args s 0 0 A) (F0 m 88 ls [])
def I_Ma_perform_e (p : Program) (l : Launch) (e : Env) (s : State) (m : MethodId) (args : Array Value) (below : List Frame) (meth : Method) (c : Code) (D : va_G) (cy : Nat → ClassId) (A : Nat → Prop) (ad : Nat → Nat) (o : Nat) (r_signatures : Value) (v_a_scriptEnd : Value) (v_a_taken : Value) (r_layout : Value) (r_coin : Value) (o_sha : Nat) (a_sha_state : Nat) (a_sha_w : Nat) (a_sha_chunk : Nat) (o_ripemd : Nat) (a_ripemd_state : Nat) (a_ripemd_left : Nat) (a_ripemd_right : Nat) (a_ripemd_x : Nat) (a_data : Nat) (a_main : Nat) (a_other : Nat) (i_ops : Int32) (i_ifs : Int32) (i_ifsNotTaken : Int32) (i_tx : Int32) (i_in : Int32) (i_messageIsThere : Int32) (k : Int32 → Int32 → Int32 → Int32 → Int32 → Int64 → (Nat → Int32) → (Nat → Int32) → (Nat → Int32) → (Nat → Int32) → (Nat → Int32) → (Nat → Int32) → (Nat → Int32) → (Nat → Int32) → (Nat → Int32) → (Nat → Int32) → Option (Int32 × Int32 × Int32 × Int32 × Int32 × Int64 × (Nat → Int32) × (Nat → Int32) × (Nat → Int32) × (Nat → Int32) × (Nat → Int32) × (Nat → Int32) × (Nat → Int32) × (Nat → Int32) × (Nat → Int32) × (Nat → Int32))) : Prop :=
  ∀ (a1 : Int32) (u0 : Int32) (u1 : Int32) (u2 : Int32) (u3 : Int32) (u4 : Int64) (u5 : Nat → Int32) (u6 : Nat → Int32) (u7 : Nat → Int32) (u8 : Nat → Int32) (u9 : Nat → Int32) (u10 : Nat → Int32) (u11 : Nat → Int32) (u12 : Nat → Int32) (u13 : Nat → Int32) (u14 : Nat → Int32) (res : Int32 × Int32 × Int32 × Int32 × Int32 × Int64 × (Nat → Int32) × (Nat → Int32) × (Nat → Int32) × (Nat → Int32) × (Nat → Int32) × (Nat → Int32) × (Nat → Int32) × (Nat → Int32) × (Nat → Int32) × (Nat → Int32)), k a1 u0 u1 u2 u3 u4 u5 u6 u7 u8 u9 u10 u11 u12 u13 u14 = some res → ∀ (H : Heap) (locs : List Loc) (ls : Array Slot), va_P D classes [(o, .inr (6, [.ref o_sha, r_signatures, .ref o_ripemd, .ref a_data, v_a_scriptEnd, .ref a_main, .ref a_other, v_a_taken, .int u0, .int u1, .int i_ops, .int i_ifs, .int i_ifsNotTaken, .int u2, r_layout, .int i_tx, .int i_in, r_coin, .int i_messageIsThere])), (o_sha, .inr (9, [.ref a_sha_state, .ref a_sha_w, .ref a_sha_chunk, .int u3, .long u4])), (a_sha_state, .inl (cy 1, 8, .inl u5)), (a_sha_w, .inl (cy 1, 64, .inl u6)), (a_sha_chunk, .inl (cy 0, 64, .inl u7)), (o_ripemd, .inr (8, [.ref a_ripemd_state, .ref a_ripemd_left, .ref a_ripemd_right, .ref a_ripemd_x])), (a_ripemd_state, .inl (cy 1, 5, .inl u8)), (a_ripemd_left, .inl (cy 1, 5, .inl u9)), (a_ripemd_right, .inl (cy 1, 5, .inl u10)), (a_ripemd_x, .inl (cy 1, 16, .inl u11)), (a_data, .inl (cy 0, 14928, .inl u12)), (a_main, .inl (cy 1, 204, .inl u13)), (a_other, .inl (cy 1, 204, .inl u14))] H → va_D A [(o, .inr (6, [.ref o_sha, r_signatures, .ref o_ripemd, .ref a_data, v_a_scriptEnd, .ref a_main, .ref a_other, v_a_taken, .int u0, .int u1, .int i_ops, .int i_ifs, .int i_ifsNotTaken, .int u2, r_layout, .int i_tx, .int i_in, r_coin, .int i_messageIsThere])), (o_sha, .inr (9, [.ref a_sha_state, .ref a_sha_w, .ref a_sha_chunk, .int u3, .long u4])), (a_sha_state, .inl (cy 1, 8, .inl u5)), (a_sha_w, .inl (cy 1, 64, .inl u6)), (a_sha_chunk, .inl (cy 0, 64, .inl u7)), (o_ripemd, .inr (8, [.ref a_ripemd_state, .ref a_ripemd_left, .ref a_ripemd_right, .ref a_ripemd_x])), (a_ripemd_state, .inl (cy 1, 5, .inl u8)), (a_ripemd_left, .inl (cy 1, 5, .inl u9)), (a_ripemd_right, .inl (cy 1, 5, .inl u10)), (a_ripemd_x, .inl (cy 1, 16, .inl u11)), (a_data, .inl (cy 0, 14928, .inl u12)), (a_main, .inl (cy 1, 204, .inl u13)), (a_other, .inl (cy 1, 204, .inl u14))] → va_S A s.heap H locs → lv_has ls 2 [(0, .ref o), (1, .int a1)] → W p l e rm_Ma_perform s m args below meth c H locs 0 0 (MQ below (q_Ma_perform D cy A o r_signatures v_a_scriptEnd v_a_taken r_layout r_coin o_sha a_sha_state a_sha_w a_sha_chunk o_ripemd a_ripemd_state a_ripemd_left a_ripemd_right a_ripemd_x a_data a_main a_other i_ops i_ifs i_ifsNotTaken i_tx i_in i_messageIsThere res) args s 0 0 A) (F0 m 0 ls [])
theorem hdc_51 : ({ cls := "CoinKeeper$Machine", name := "fromOther", desc := "()Z" } : Jvm.MethodName).cls ≠ "java/lang/invoke/MethodHandle" ∧ ({ cls := "CoinKeeper$Machine", name := "fromOther", desc := "()Z" } : Jvm.MethodName).cls ≠ "java/lang/invoke/VarHandle" ∧ (parseMethodDescriptor ({ cls := "CoinKeeper$Machine", name := "fromOther", desc := "()Z" } : Jvm.MethodName).desc).map (fun d => d.parameters.length) = some 0 := by decide +kernel
theorem hdc_52 : ({ cls := "CoinKeeper$Machine", name := "toOther", desc := "()Z" } : Jvm.MethodName).cls ≠ "java/lang/invoke/MethodHandle" ∧ ({ cls := "CoinKeeper$Machine", name := "toOther", desc := "()Z" } : Jvm.MethodName).cls ≠ "java/lang/invoke/VarHandle" ∧ (parseMethodDescriptor ({ cls := "CoinKeeper$Machine", name := "toOther", desc := "()Z" } : Jvm.MethodName).desc).map (fun d => d.parameters.length) = some 0 := by decide +kernel
set_option maxHeartbeats 8000000 in
set_option maxRecDepth 100000 in
theorem wb_Ma_perform_43 {p : Program} {l : Launch} {e : Env} {s : State} {m : MethodId} {args : Array Value} {below : List Frame} {meth : Method} {c : Code} {D : va_G} {cy : Nat → ClassId} {A : Nat → Prop} {ad : Nat → Nat} {o : Nat} {r_signatures : Value} {v_a_scriptEnd : Value} {v_a_taken : Value} {r_layout : Value} {r_coin : Value} {o_sha : Nat} {a_sha_state : Nat} {a_sha_w : Nat} {a_sha_chunk : Nat} {o_ripemd : Nat} {a_ripemd_state : Nat} {a_ripemd_left : Nat} {a_ripemd_right : Nat} {a_ripemd_x : Nat} {a_data : Nat} {a_main : Nat} {a_other : Nat} {i_ops : Int32} {i_ifs : Int32} {i_ifsNotTaken : Int32} {i_tx : Int32} {i_in : Int32} {i_messageIsThere : Int32} {fu : Nat} (F : Fx p s m args meth c b_Ma_perform 2 "CoinKeeper$Machine" "perform" (some .boolean) D cy ad A) : I_Ma_perform_43 p l e s m args below meth c D cy A ad o r_signatures v_a_scriptEnd v_a_taken r_layout r_coin o_sha a_sha_state a_sha_w a_sha_chunk o_ripemd a_ripemd_state a_ripemd_left a_ripemd_right a_ripemd_x a_data a_main a_other i_ops i_ifs i_ifsNotTaken i_tx i_in i_messageIsThere (xb_Ma_perform_43 fu i_ops i_ifs i_ifsNotTaken i_tx i_in i_messageIsThere) := by
  obtain ⟨hx, hb, hr, hml, hown, hts, hlocks, hK, hA, hSt, hnm, hex⟩ := id F
  intro x1 u0 u1 u2 u3 u4 u5 u6 u7 u8 u9 u10 u11 u12 u13 u14 res hf H locs ls hP hD hS hl
  unfold xb_Ma_perform_43 at hf
  refine lv_iload_n hx hb d_Ma_perform_43 rfl (lv_at hl 1 rfl) ?_
  refine lv_bipush (v := 107) hx hb d_Ma_perform_44 (by decide) ?_
  refine lv_icmp_ne (tgt := 56) hx hb d_Ma_perform_46 (by decide) (fun cx => ?_) (fun cx => ?_)
  · have hf := ifn cx hf
    refine lv_aload_n hx hb d_Ma_perform_56 rfl (lv_at hl 0 rfl) ?_
    obtain ⟨v1, e2, e3, f4, hc, hf⟩ := bdp4 hf
    refine q_ai (wr := [(o_sha, .inr (9, [.ref a_sha_state, .ref a_sha_w, .ref a_sha_chunk, .int u3, .long u4])), (a_sha_state, .inl (cy 1, 8, .inl u5)), (a_sha_w, .inl (cy 1, 64, .inl u6)), (a_sha_chunk, .inl (cy 0, 64, .inl u7)), (o_ripemd, .inr (8, [.ref a_ripemd_state, .ref a_ripemd_left, .ref a_ripemd_right, .ref a_ripemd_x])), (a_ripemd_state, .inl (cy 1, 5, .inl u8)), (a_ripemd_left, .inl (cy 1, 5, .inl u9)), (a_ripemd_right, .inl (cy 1, 5, .inl u10)), (a_ripemd_x, .inl (cy 1, 16, .inl u11)), (a_data, .inl (cy 0, 14928, .inl u12))]) (va_runV (C := "CoinKeeper$Machine") (As := []) (rest := []) ⟨hx, hb, hml, hown, hts⟩ (c_Ma_fromOther l D cy ad fu o (.ref o_sha) r_signatures (.ref o_ripemd) (.ref a_data) v_a_scriptEnd v_a_taken r_layout r_coin a_main a_other i_ops i_ifs i_ifsNotTaken u2 i_tx i_in i_messageIsThere u14 u0 u1 u13 _ hc H.size) ⟨q_cB hts gw_1191 gw_6 gw_1188 hdc_51 ⟨by decide, by decide⟩, hts _ gw_1190, hts _ gs_47⟩ (q_preV (q_pre (hP.sub [0, 11, 12] rfl) (hD.sub [0, 11, 12] (by decide) rfl) hK hSt hS (va_free hD hS hA [0, 11, 12] rfl) _) (va_recv hK (hP.sub [0, 11, 12] rfl) (ci := 6) (q0 := 0) rfl rfl)) rfl rfl hl.1 rfl (lv_room (Nat.le_of_ble_eq_true rfl)) d_Ma_perform_57 ⟨Nat.le_of_ble_eq_true rfl, Nat.le_of_ble_eq_true rfl⟩) hP hD hS hA [0, 11, 12] [1, 2, 3, 4, 5, 6, 7, 8, 9, 10] rfl rfl (by decide) (by decide) (fun H locs hP hD hS => ?_)
    clear hc
    have hP : va_P D classes [(o_sha, .inr (9, [.ref a_sha_state, .ref a_sha_w, .ref a_sha_chunk, .int u3, .long u4])), (a_sha_state, .inl (cy 1, 8, .inl u5)), (a_sha_w, .inl (cy 1, 64, .inl u6)), (a_sha_chunk, .inl (cy 0, 64, .inl u7)), (o_ripemd, .inr (8, [.ref a_ripemd_state, .ref a_ripemd_left, .ref a_ripemd_right, .ref a_ripemd_x])), (a_ripemd_state, .inl (cy 1, 5, .inl u8)), (a_ripemd_left, .inl (cy 1, 5, .inl u9)), (a_ripemd_right, .inl (cy 1, 5, .inl u10)), (a_ripemd_x, .inl (cy 1, 16, .inl u11)), (a_data, .inl (cy 0, 14928, .inl u12)), (o, .inr (6, [.ref o_sha, r_signatures, .ref o_ripemd, .ref a_data, v_a_scriptEnd, .ref a_main, .ref a_other, v_a_taken, .int e2, .int e3, .int i_ops, .int i_ifs, .int i_ifsNotTaken, .int u2, r_layout, .int i_tx, .int i_in, r_coin, .int i_messageIsThere])), (a_main, .inl (cy 1, 204, .inl f4)), (a_other, .inl (cy 1, 204, .inl u14))] H := hP
    have hD : va_D A [(o_sha, .inr (9, [.ref a_sha_state, .ref a_sha_w, .ref a_sha_chunk, .int u3, .long u4])), (a_sha_state, .inl (cy 1, 8, .inl u5)), (a_sha_w, .inl (cy 1, 64, .inl u6)), (a_sha_chunk, .inl (cy 0, 64, .inl u7)), (o_ripemd, .inr (8, [.ref a_ripemd_state, .ref a_ripemd_left, .ref a_ripemd_right, .ref a_ripemd_x])), (a_ripemd_state, .inl (cy 1, 5, .inl u8)), (a_ripemd_left, .inl (cy 1, 5, .inl u9)), (a_ripemd_right, .inl (cy 1, 5, .inl u10)), (a_ripemd_x, .inl (cy 1, 16, .inl u11)), (a_data, .inl (cy 0, 14928, .inl u12)), (o, .inr (6, [.ref o_sha, r_signatures, .ref o_ripemd, .ref a_data, v_a_scriptEnd, .ref a_main, .ref a_other, v_a_taken, .int e2, .int e3, .int i_ops, .int i_ifs, .int i_ifsNotTaken, .int u2, r_layout, .int i_tx, .int i_in, r_coin, .int i_messageIsThere])), (a_main, .inl (cy 1, 204, .inl f4)), (a_other, .inl (cy 1, 204, .inl u14))] := hD
    obtain ⟨hg, hf⟩ := gdp hf
    obtain rfl := Option.some.inj hf
    exact q_rz hx hb hr hlocks hK (hP.sub [10, 0, 1, 2, 3, 4, 5, 6, 7, 8, 9, 11, 12] rfl) (hD.sub [10, 0, 1, 2, 3, 4, 5, 6, 7, 8, 9, 11, 12] (by decide) rfl) hS (isb_n hg) d_Ma_perform_60
  · have hf := ifp cx hf
    refine lv_aload_n hx hb d_Ma_perform_49 rfl (lv_at hl 0 rfl) ?_
    obtain ⟨v5, e6, e7, f8, hc, hf⟩ := bdp4 hf
    refine q_ai (wr := [(o_sha, .inr (9, [.ref a_sha_state, .ref a_sha_w, .ref a_sha_chunk, .int u3, .long u4])), (a_sha_state, .inl (cy 1, 8, .inl u5)), (a_sha_w, .inl (cy 1, 64, .inl u6)), (a_sha_chunk, .inl (cy 0, 64, .inl u7)), (o_ripemd, .inr (8, [.ref a_ripemd_state, .ref a_ripemd_left, .ref a_ripemd_right, .ref a_ripemd_x])), (a_ripemd_state, .inl (cy 1, 5, .inl u8)), (a_ripemd_left, .inl (cy 1, 5, .inl u9)), (a_ripemd_right, .inl (cy 1, 5, .inl u10)), (a_ripemd_x, .inl (cy 1, 16, .inl u11)), (a_data, .inl (cy 0, 14928, .inl u12))]) (va_runV (C := "CoinKeeper$Machine") (As := []) (rest := []) ⟨hx, hb, hml, hown, hts⟩ (c_Ma_toOther l D cy ad fu o (.ref o_sha) r_signatures (.ref o_ripemd) (.ref a_data) v_a_scriptEnd v_a_taken r_layout r_coin a_main a_other i_ops i_ifs i_ifsNotTaken u2 i_tx i_in i_messageIsThere u13 u0 u1 u14 _ hc H.size) ⟨q_cB hts gw_1187 gw_6 gw_1184 hdc_52 ⟨by decide, by decide⟩, hts _ gw_1186, hts _ gs_46⟩ (q_preV (q_pre (hP.sub [0, 11, 12] rfl) (hD.sub [0, 11, 12] (by decide) rfl) hK hSt hS (va_free hD hS hA [0, 11, 12] rfl) _) (va_recv hK (hP.sub [0, 11, 12] rfl) (ci := 6) (q0 := 0) rfl rfl)) rfl rfl hl.1 rfl (lv_room (Nat.le_of_ble_eq_true rfl)) d_Ma_perform_50 ⟨Nat.le_of_ble_eq_true rfl, Nat.le_of_ble_eq_true rfl⟩) hP hD hS hA [0, 11, 12] [1, 2, 3, 4, 5, 6, 7, 8, 9, 10] rfl rfl (by decide) (by decide) (fun H locs hP hD hS => ?_)
    clear hc
    have hP : va_P D classes [(o_sha, .inr (9, [.ref a_sha_state, .ref a_sha_w, .ref a_sha_chunk, .int u3, .long u4])), (a_sha_state, .inl (cy 1, 8, .inl u5)), (a_sha_w, .inl (cy 1, 64, .inl u6)), (a_sha_chunk, .inl (cy 0, 64, .inl u7)), (o_ripemd, .inr (8, [.ref a_ripemd_state, .ref a_ripemd_left, .ref a_ripemd_right, .ref a_ripemd_x])), (a_ripemd_state, .inl (cy 1, 5, .inl u8)), (a_ripemd_left, .inl (cy 1, 5, .inl u9)), (a_ripemd_right, .inl (cy 1, 5, .inl u10)), (a_ripemd_x, .inl (cy 1, 16, .inl u11)), (a_data, .inl (cy 0, 14928, .inl u12)), (o, .inr (6, [.ref o_sha, r_signatures, .ref o_ripemd, .ref a_data, v_a_scriptEnd, .ref a_main, .ref a_other, v_a_taken, .int e6, .int e7, .int i_ops, .int i_ifs, .int i_ifsNotTaken, .int u2, r_layout, .int i_tx, .int i_in, r_coin, .int i_messageIsThere])), (a_main, .inl (cy 1, 204, .inl u13)), (a_other, .inl (cy 1, 204, .inl f8))] H := hP
    have hD : va_D A [(o_sha, .inr (9, [.ref a_sha_state, .ref a_sha_w, .ref a_sha_chunk, .int u3, .long u4])), (a_sha_state, .inl (cy 1, 8, .inl u5)), (a_sha_w, .inl (cy 1, 64, .inl u6)), (a_sha_chunk, .inl (cy 0, 64, .inl u7)), (o_ripemd, .inr (8, [.ref a_ripemd_state, .ref a_ripemd_left, .ref a_ripemd_right, .ref a_ripemd_x])), (a_ripemd_state, .inl (cy 1, 5, .inl u8)), (a_ripemd_left, .inl (cy 1, 5, .inl u9)), (a_ripemd_right, .inl (cy 1, 5, .inl u10)), (a_ripemd_x, .inl (cy 1, 16, .inl u11)), (a_data, .inl (cy 0, 14928, .inl u12)), (o, .inr (6, [.ref o_sha, r_signatures, .ref o_ripemd, .ref a_data, v_a_scriptEnd, .ref a_main, .ref a_other, v_a_taken, .int e6, .int e7, .int i_ops, .int i_ifs, .int i_ifsNotTaken, .int u2, r_layout, .int i_tx, .int i_in, r_coin, .int i_messageIsThere])), (a_main, .inl (cy 1, 204, .inl u13)), (a_other, .inl (cy 1, 204, .inl f8))] := hD
    refine lv_goto (tgt := 60) hx hb d_Ma_perform_53 (by decide) ?_
    obtain ⟨hg, hf⟩ := gdp hf
    obtain rfl := Option.some.inj hf
    exact q_rz hx hb hr hlocks hK (hP.sub [10, 0, 1, 2, 3, 4, 5, 6, 7, 8, 9, 11, 12] rfl) (hD.sub [10, 0, 1, 2, 3, 4, 5, 6, 7, 8, 9, 11, 12] (by decide) rfl) hS (isb_n hg) d_Ma_perform_60
theorem hdc_53 : ({ cls := "CoinKeeper$Machine", name := "compareTop", desc := "(I)Z" } : Jvm.MethodName).cls ≠ "java/lang/invoke/MethodHandle" ∧ ({ cls := "CoinKeeper$Machine", name := "compareTop", desc := "(I)Z" } : Jvm.MethodName).cls ≠ "java/lang/invoke/VarHandle" ∧ (parseMethodDescriptor ({ cls := "CoinKeeper$Machine", name := "compareTop", desc := "(I)Z" } : Jvm.MethodName).desc).map (fun d => d.parameters.length) = some 1 := by decide +kernel
set_option maxHeartbeats 8000000 in
set_option maxRecDepth 100000 in
theorem wb_Ma_perform_88 {p : Program} {l : Launch} {e : Env} {s : State} {m : MethodId} {args : Array Value} {below : List Frame} {meth : Method} {c : Code} {D : va_G} {cy : Nat → ClassId} {A : Nat → Prop} {ad : Nat → Nat} {o : Nat} {r_signatures : Value} {v_a_scriptEnd : Value} {v_a_taken : Value} {r_layout : Value} {r_coin : Value} {o_sha : Nat} {a_sha_state : Nat} {a_sha_w : Nat} {a_sha_chunk : Nat} {o_ripemd : Nat} {a_ripemd_state : Nat} {a_ripemd_left : Nat} {a_ripemd_right : Nat} {a_ripemd_x : Nat} {a_data : Nat} {a_main : Nat} {a_other : Nat} {i_ops : Int32} {i_ifs : Int32} {i_ifsNotTaken : Int32} {i_tx : Int32} {i_in : Int32} {i_messageIsThere : Int32} {fu : Nat} (F : Fx p s m args meth c b_Ma_perform 2 "CoinKeeper$Machine" "perform" (some .boolean) D cy ad A) : I_Ma_perform_88 p l e s m args below meth c D cy A ad o r_signatures v_a_scriptEnd v_a_taken r_layout r_coin o_sha a_sha_state a_sha_w a_sha_chunk o_ripemd a_ripemd_state a_ripemd_left a_ripemd_right a_ripemd_x a_data a_main a_other i_ops i_ifs i_ifsNotTaken i_tx i_in i_messageIsThere (xb_Ma_perform_88 fu i_ops i_ifs i_ifsNotTaken i_tx i_in i_messageIsThere) := by
  obtain ⟨hx, hb, hr, hml, hown, hts, hlocks, hK, hA, hSt, hnm, hex⟩ := id F
  intro x1 u0 u1 u2 u3 u4 u5 u6 u7 u8 u9 u10 u11 u12 u13 u14 res hf H locs ls hP hD hS hl
  unfold xb_Ma_perform_88 at hf
  refine lv_aload_n hx hb d_Ma_perform_88 rfl (lv_at hl 0 rfl) ?_
  refine lv_iload_n hx hb d_Ma_perform_89 rfl (lv_at hl 1 rfl) ?_
  obtain ⟨v1, e2, f3, hc, hf⟩ := bdp3 hf
  refine q_ai (wr := [(o_sha, .inr (9, [.ref a_sha_state, .ref a_sha_w, .ref a_sha_chunk, .int u3, .long u4])), (a_sha_state, .inl (cy 1, 8, .inl u5)), (a_sha_w, .inl (cy 1, 64, .inl u6)), (a_sha_chunk, .inl (cy 0, 64, .inl u7)), (o_ripemd, .inr (8, [.ref a_ripemd_state, .ref a_ripemd_left, .ref a_ripemd_right, .ref a_ripemd_x])), (a_ripemd_state, .inl (cy 1, 5, .inl u8)), (a_ripemd_left, .inl (cy 1, 5, .inl u9)), (a_ripemd_right, .inl (cy 1, 5, .inl u10)), (a_ripemd_x, .inl (cy 1, 16, .inl u11)), (a_other, .inl (cy 1, 204, .inl u14))]) (va_runV (C := "CoinKeeper$Machine") (As := [.int x1]) (rest := []) ⟨hx, hb, hml, hown, hts⟩ (c_Ma_compareTop l D cy ad fu o (.ref o_sha) r_signatures (.ref o_ripemd) v_a_scriptEnd (.ref a_other) v_a_taken r_layout r_coin a_data a_main u1 i_ops i_ifs i_ifsNotTaken u2 i_tx i_in i_messageIsThere u12 x1 u0 u13 _ hc H.size) ⟨q_cB hts gw_1213 gw_6 gw_1210 hdc_53 ⟨by decide, by decide⟩, hts _ gw_1212, hts _ gs_51⟩ (q_preV (q_pre (hP.sub [0, 10, 11] rfl) (hD.sub [0, 10, 11] (by decide) rfl) hK hSt hS (va_free hD hS hA [0, 10, 11] rfl) _) (va_recv hK (hP.sub [0, 10, 11] rfl) (ci := 6) (q0 := 0) rfl rfl)) rfl rfl hl.1 rfl (lv_room (Nat.le_of_ble_eq_true rfl)) d_Ma_perform_90 ⟨Nat.le_of_ble_eq_true rfl, Nat.le_of_ble_eq_true rfl⟩) hP hD hS hA [0, 10, 11] [1, 2, 3, 4, 5, 6, 7, 8, 9, 12] rfl rfl (by decide) (by decide) (fun H locs hP hD hS => ?_)
  clear hc
  have hP : va_P D classes [(o_sha, .inr (9, [.ref a_sha_state, .ref a_sha_w, .ref a_sha_chunk, .int u3, .long u4])), (a_sha_state, .inl (cy 1, 8, .inl u5)), (a_sha_w, .inl (cy 1, 64, .inl u6)), (a_sha_chunk, .inl (cy 0, 64, .inl u7)), (o_ripemd, .inr (8, [.ref a_ripemd_state, .ref a_ripemd_left, .ref a_ripemd_right, .ref a_ripemd_x])), (a_ripemd_state, .inl (cy 1, 5, .inl u8)), (a_ripemd_left, .inl (cy 1, 5, .inl u9)), (a_ripemd_right, .inl (cy 1, 5, .inl u10)), (a_ripemd_x, .inl (cy 1, 16, .inl u11)), (a_other, .inl (cy 1, 204, .inl u14)), (o, .inr (6, [.ref o_sha, r_signatures, .ref o_ripemd, .ref a_data, v_a_scriptEnd, .ref a_main, .ref a_other, v_a_taken, .int e2, .int u1, .int i_ops, .int i_ifs, .int i_ifsNotTaken, .int u2, r_layout, .int i_tx, .int i_in, r_coin, .int i_messageIsThere])), (a_data, .inl (cy 0, 14928, .inl u12)), (a_main, .inl (cy 1, 204, .inl f3))] H := hP
  have hD : va_D A [(o_sha, .inr (9, [.ref a_sha_state, .ref a_sha_w, .ref a_sha_chunk, .int u3, .long u4])), (a_sha_state, .inl (cy 1, 8, .inl u5)), (a_sha_w, .inl (cy 1, 64, .inl u6)), (a_sha_chunk, .inl (cy 0, 64, .inl u7)), (o_ripemd, .inr (8, [.ref a_ripemd_state, .ref a_ripemd_left, .ref a_ripemd_right, .ref a_ripemd_x])), (a_ripemd_state, .inl (cy 1, 5, .inl u8)), (a_ripemd_left, .inl (cy 1, 5, .inl u9)), (a_ripemd_right, .inl (cy 1, 5, .inl u10)), (a_ripemd_x, .inl (cy 1, 16, .inl u11)), (a_other, .inl (cy 1, 204, .inl u14)), (o, .inr (6, [.ref o_sha, r_signatures, .ref o_ripemd, .ref a_data, v_a_scriptEnd, .ref a_main, .ref a_other, v_a_taken, .int e2, .int u1, .int i_ops, .int i_ifs, .int i_ifsNotTaken, .int u2, r_layout, .int i_tx, .int i_in, r_coin, .int i_messageIsThere])), (a_data, .inl (cy 0, 14928, .inl u12)), (a_main, .inl (cy 1, 204, .inl f3))] := hD
  obtain ⟨hg, hf⟩ := gdp hf
  obtain rfl := Option.some.inj hf
  exact q_rz hx hb hr hlocks hK (hP.sub [10, 0, 1, 2, 3, 4, 5, 6, 7, 8, 11, 12, 9] rfl) (hD.sub [10, 0, 1, 2, 3, 4, 5, 6, 7, 8, 11, 12, 9] (by decide) rfl) hS (isb_n hg) d_Ma_perform_93
theorem hdc_54 : ({ cls := "CoinKeeper$Machine", name := "digestTop", desc := "(I)Z" } : Jvm.MethodName).cls ≠ "java/lang/invoke/MethodHandle" ∧ ({ cls := "CoinKeeper$Machine", name := "digestTop", desc := "(I)Z" } : Jvm.MethodName).cls ≠ "java/lang/invoke/VarHandle" ∧ (parseMethodDescriptor ({ cls := "CoinKeeper$Machine", name := "digestTop", desc := "(I)Z" } : Jvm.MethodName).desc).map (fun d => d.parameters.length) = some 1 := by decide +kernel
theorem hdc_55 : ({ cls := "CoinKeeper$Machine", name := "within", desc := "()Z" } : Jvm.MethodName).cls ≠ "java/lang/invoke/MethodHandle" ∧ ({ cls := "CoinKeeper$Machine", name := "within", desc := "()Z" } : Jvm.MethodName).cls ≠ "java/lang/invoke/VarHandle" ∧ (parseMethodDescriptor ({ cls := "CoinKeeper$Machine", name := "within", desc := "()Z" } : Jvm.MethodName).desc).map (fun d => d.parameters.length) = some 0 := by decide +kernel
theorem hdc_56 : ({ cls := "CoinKeeper$Machine", name := "joinNumbers", desc := "(I)Z" } : Jvm.MethodName).cls ≠ "java/lang/invoke/MethodHandle" ∧ ({ cls := "CoinKeeper$Machine", name := "joinNumbers", desc := "(I)Z" } : Jvm.MethodName).cls ≠ "java/lang/invoke/VarHandle" ∧ (parseMethodDescriptor ({ cls := "CoinKeeper$Machine", name := "joinNumbers", desc := "(I)Z" } : Jvm.MethodName).desc).map (fun d => d.parameters.length) = some 1 := by decide +kernel
theorem hdc_57 : ({ cls := "CoinKeeper$Machine", name := "changeNumber", desc := "(I)Z" } : Jvm.MethodName).cls ≠ "java/lang/invoke/MethodHandle" ∧ ({ cls := "CoinKeeper$Machine", name := "changeNumber", desc := "(I)Z" } : Jvm.MethodName).cls ≠ "java/lang/invoke/VarHandle" ∧ (parseMethodDescriptor ({ cls := "CoinKeeper$Machine", name := "changeNumber", desc := "(I)Z" } : Jvm.MethodName).desc).map (fun d => d.parameters.length) = some 1 := by decide +kernel
theorem hdc_58 : ({ cls := "CoinKeeper$Machine", name := "arrange", desc := "(I)Z" } : Jvm.MethodName).cls ≠ "java/lang/invoke/MethodHandle" ∧ ({ cls := "CoinKeeper$Machine", name := "arrange", desc := "(I)Z" } : Jvm.MethodName).cls ≠ "java/lang/invoke/VarHandle" ∧ (parseMethodDescriptor ({ cls := "CoinKeeper$Machine", name := "arrange", desc := "(I)Z" } : Jvm.MethodName).desc).map (fun d => d.parameters.length) = some 1 := by decide +kernel
theorem hdc_59 : ({ cls := "CoinKeeper$Machine", name := "pushSmall", desc := "(I)Z" } : Jvm.MethodName).cls ≠ "java/lang/invoke/MethodHandle" ∧ ({ cls := "CoinKeeper$Machine", name := "pushSmall", desc := "(I)Z" } : Jvm.MethodName).cls ≠ "java/lang/invoke/VarHandle" ∧ (parseMethodDescriptor ({ cls := "CoinKeeper$Machine", name := "pushSmall", desc := "(I)Z" } : Jvm.MethodName).desc).map (fun d => d.parameters.length) = some 1 := by decide +kernel
set_option maxHeartbeats 8000000 in
set_option maxRecDepth 100000 in
theorem we_Ma_perform {p : Program} {l : Launch} {e : Env} {s : State} {m : MethodId} {args : Array Value} {below : List Frame} {meth : Method} {c : Code} {D : va_G} {cy : Nat → ClassId} {A : Nat → Prop} {ad : Nat → Nat} {o : Nat} {r_signatures : Value} {v_a_scriptEnd : Value} {v_a_taken : Value} {r_layout : Value} {r_coin : Value} {o_sha : Nat} {a_sha_state : Nat} {a_sha_w : Nat} {a_sha_chunk : Nat} {o_ripemd : Nat} {a_ripemd_state : Nat} {a_ripemd_left : Nat} {a_ripemd_right : Nat} {a_ripemd_x : Nat} {a_data : Nat} {a_main : Nat} {a_other : Nat} {i_ops : Int32} {i_ifs : Int32} {i_ifsNotTaken : Int32} {i_tx : Int32} {i_in : Int32} {i_messageIsThere : Int32} {fu : Nat} (F : Fx p s m args meth c b_Ma_perform 2 "CoinKeeper$Machine" "perform" (some .boolean) D cy ad A) : I_Ma_perform_e p l e s m args below meth c D cy A ad o r_signatures v_a_scriptEnd v_a_taken r_layout r_coin o_sha a_sha_state a_sha_w a_sha_chunk o_ripemd a_ripemd_state a_ripemd_left a_ripemd_right a_ripemd_x a_data a_main a_other i_ops i_ifs i_ifsNotTaken i_tx i_in i_messageIsThere (x_Ma_perform fu i_ops i_ifs i_ifsNotTaken i_tx i_in i_messageIsThere) := by
  obtain ⟨hx, hb, hr, hml, hown, hts, hlocks, hK, hA, hSt, hnm, hex⟩ := id F
  intro a1 u0 u1 u2 u3 u4 u5 u6 u7 u8 u9 u10 u11 u12 u13 u14 res hf H locs ls hP hD hS hl
  unfold x_Ma_perform at hf
  refine lv_iload_n hx hb d_Ma_perform_0 rfl (lv_at hl 1 rfl) ?_
  refine lv_bipush (v := 96) hx hb d_Ma_perform_1 (by decide) ?_
  refine lv_icmp_gt (tgt := 12) hx hb d_Ma_perform_3 (by decide) (fun cx => ?_) (fun cx => ?_)
  · have hf := ifp cx hf
    refine lv_iload_n hx hb d_Ma_perform_12 rfl (lv_at hl 1 rfl) ?_
    refine lv_bipush (v := 97) hx hb d_Ma_perform_13 (by decide) ?_
    refine lv_icmp_ne (tgt := 20) hx hb d_Ma_perform_15 (by decide) (fun cx => ?_) (fun cx => ?_)
    · have hf := ifn cx hf
      refine lv_iload_n hx hb d_Ma_perform_20 rfl (lv_at hl 1 rfl) ?_
      refine lv_bipush (v := 105) hx hb d_Ma_perform_21 (by decide) ?_
      refine lv_icmp_ne (tgt := 31) hx hb d_Ma_perform_23 (by decide) (fun cx => ?_) (fun cx => ?_)
      · have hf := ifn cx hf
        refine lv_iload_n hx hb d_Ma_perform_31 rfl (lv_at hl 1 rfl) ?_
        refine lv_bipush (v := 107) hx hb d_Ma_perform_32 (by decide) ?_
        refine lv_icmp_eq (tgt := 43) hx hb d_Ma_perform_34 (by decide) (fun cx => ?_) (fun cx => ?_)
        · have hf := ifp cx hf
          exact wb_Ma_perform_43 (fu := fu) F _ _ _ _ _ _ _ _ _ _ _ _ _ _ _ _ _ hf _ _ _ hP hD hS (lv_sub hl [0, 1] rfl)
        · have hf := ifn cx hf
          refine lv_iload_n hx hb d_Ma_perform_37 rfl (lv_at hl 1 rfl) ?_
          refine lv_bipush (v := 108) hx hb d_Ma_perform_38 (by decide) ?_
          refine lv_icmp_ne (tgt := 61) hx hb d_Ma_perform_40 (by decide) (fun cx => ?_) (fun cx => ?_)
          · have hf := ifn cx hf
            refine lv_iload_n hx hb d_Ma_perform_61 rfl (lv_at hl 1 rfl) ?_
            refine lv_sipush (v := 130) hx hb d_Ma_perform_62 (by decide) ?_
            refine lv_icmp_gt (tgt := 74) hx hb d_Ma_perform_65 (by decide) (fun cx => ?_) (fun cx => ?_)
            · have hf := ifp cx hf
              refine lv_iload_n hx hb d_Ma_perform_74 rfl (lv_at hl 1 rfl) ?_
              refine lv_sipush (v := 135) hx hb d_Ma_perform_75 (by decide) ?_
              refine lv_icmp_eq (tgt := 88) hx hb d_Ma_perform_78 (by decide) (fun cx => ?_) (fun cx => ?_)
              · have hf := ifp cx hf
                exact wb_Ma_perform_88 (fu := fu) F _ _ _ _ _ _ _ _ _ _ _ _ _ _ _ _ _ hf _ _ _ hP hD hS (lv_sub hl [0, 1] rfl)
              · have hf := ifn cx hf
                refine lv_iload_n hx hb d_Ma_perform_81 rfl (lv_at hl 1 rfl) ?_
                refine lv_sipush (v := 136) hx hb d_Ma_perform_82 (by decide) ?_
                refine lv_icmp_ne (tgt := 94) hx hb d_Ma_perform_85 (by decide) (fun cx => ?_) (fun cx => ?_)
                · have hf := ifn cx hf
                  refine lv_iload_n hx hb d_Ma_perform_94 rfl (lv_at hl 1 rfl) ?_
                  refine lv_sipush (v := 146) hx hb d_Ma_perform_95 (by decide) ?_
                  refine lv_icmp_gt (tgt := 107) hx hb d_Ma_perform_98 (by decide) (fun cx => ?_) (fun cx => ?_)
                  · have hf := ifp cx hf
                    refine lv_iload_n hx hb d_Ma_perform_107 rfl (lv_at hl 1 rfl) ?_
                    refine lv_sipush (v := 164) hx hb d_Ma_perform_108 (by decide) ?_
                    refine lv_icmp_gt (tgt := 120) hx hb d_Ma_perform_111 (by decide) (fun cx => ?_) (fun cx => ?_)
                    · have hf := ifp cx hf
                      refine lv_iload_n hx hb d_Ma_perform_120 rfl (lv_at hl 1 rfl) ?_
                      refine lv_sipush (v := 165) hx hb d_Ma_perform_121 (by decide) ?_
                      refine lv_icmp_ne (tgt := 134) hx hb d_Ma_perform_124 (by decide) (fun cx => ?_) (fun cx => ?_)
                      · have hf := ifn cx hf
                        refine lv_aload_n hx hb d_Ma_perform_134 rfl (lv_at hl 0 rfl) ?_
                        refine lv_iload_n hx hb d_Ma_perform_135 rfl (lv_at hl 1 rfl) ?_
                        obtain ⟨v1, e2, e3, e4, e5, f6, f7, f8, f9, f10, f11, f12, f13, f14, hc, hf⟩ := bdp14 hf
                        refine q_ai (wr := [(a_other, .inl (cy 1, 204, .inl u14))]) (va_runV (C := "CoinKeeper$Machine") (As := [.int a1]) (rest := []) ⟨hx, hb, hml, hown, hts⟩ (c_Ma_digestTop l D cy ad fu o r_signatures v_a_scriptEnd (.ref a_other) v_a_taken r_layout r_coin o_sha a_sha_state a_sha_w a_sha_chunk o_ripemd a_ripemd_state a_ripemd_left a_ripemd_right a_ripemd_x a_data a_main u1 i_ops i_ifs i_ifsNotTaken i_tx i_in i_messageIsThere a1 u0 u2 u3 u4 u5 u6 u7 u8 u9 u10 u11 u12 u13 _ hc H.size) ⟨q_cB hts gw_1235 gw_6 gw_1232 hdc_54 ⟨by decide, by decide⟩, hts _ gw_1234, hts _ gs_55⟩ (q_preV (q_pre (hP.sub [0, 1, 2, 3, 4, 5, 6, 7, 8, 9, 10, 11] rfl) (hD.sub [0, 1, 2, 3, 4, 5, 6, 7, 8, 9, 10, 11] (by decide) rfl) hK hSt hS (va_free hD hS hA [0, 1, 2, 3, 4, 5, 6, 7, 8, 9, 10, 11] rfl) _) (va_recv hK (hP.sub [0, 1, 2, 3, 4, 5, 6, 7, 8, 9, 10, 11] rfl) (ci := 6) (q0 := 0) rfl rfl)) rfl rfl hl.1 rfl (lv_room (Nat.le_of_ble_eq_true rfl)) d_Ma_perform_136 ⟨Nat.le_of_ble_eq_true rfl, Nat.le_of_ble_eq_true rfl⟩) hP hD hS hA [0, 1, 2, 3, 4, 5, 6, 7, 8, 9, 10, 11] [12] rfl rfl (by decide) (by decide) (fun H locs hP hD hS => ?_)
                        clear hc
                        have hP : va_P D classes [(a_other, .inl (cy 1, 204, .inl u14)), (o, .inr (6, [.ref o_sha, r_signatures, .ref o_ripemd, .ref a_data, v_a_scriptEnd, .ref a_main, .ref a_other, v_a_taken, .int e2, .int u1, .int i_ops, .int i_ifs, .int i_ifsNotTaken, .int e3, r_layout, .int i_tx, .int i_in, r_coin, .int i_messageIsThere])), (o_sha, .inr (9, [.ref a_sha_state, .ref a_sha_w, .ref a_sha_chunk, .int e4, .long e5])), (a_sha_state, .inl (cy 1, 8, .inl f6)), (a_sha_w, .inl (cy 1, 64, .inl f7)), (a_sha_chunk, .inl (cy 0, 64, .inl f8)), (o_ripemd, .inr (8, [.ref a_ripemd_state, .ref a_ripemd_left, .ref a_ripemd_right, .ref a_ripemd_x])), (a_ripemd_state, .inl (cy 1, 5, .inl f9)), (a_ripemd_left, .inl (cy 1, 5, .inl f10)), (a_ripemd_right, .inl (cy 1, 5, .inl f11)), (a_ripemd_x, .inl (cy 1, 16, .inl f12)), (a_data, .inl (cy 0, 14928, .inl f13)), (a_main, .inl (cy 1, 204, .inl f14))] H := hP
                        have hD : va_D A [(a_other, .inl (cy 1, 204, .inl u14)), (o, .inr (6, [.ref o_sha, r_signatures, .ref o_ripemd, .ref a_data, v_a_scriptEnd, .ref a_main, .ref a_other, v_a_taken, .int e2, .int u1, .int i_ops, .int i_ifs, .int i_ifsNotTaken, .int e3, r_layout, .int i_tx, .int i_in, r_coin, .int i_messageIsThere])), (o_sha, .inr (9, [.ref a_sha_state, .ref a_sha_w, .ref a_sha_chunk, .int e4, .long e5])), (a_sha_state, .inl (cy 1, 8, .inl f6)), (a_sha_w, .inl (cy 1, 64, .inl f7)), (a_sha_chunk, .inl (cy 0, 64, .inl f8)), (o_ripemd, .inr (8, [.ref a_ripemd_state, .ref a_ripemd_left, .ref a_ripemd_right, .ref a_ripemd_x])), (a_ripemd_state, .inl (cy 1, 5, .inl f9)), (a_ripemd_left, .inl (cy 1, 5, .inl f10)), (a_ripemd_right, .inl (cy 1, 5, .inl f11)), (a_ripemd_x, .inl (cy 1, 16, .inl f12)), (a_data, .inl (cy 0, 14928, .inl f13)), (a_main, .inl (cy 1, 204, .inl f14))] := hD
                        obtain ⟨hg, hf⟩ := gdp hf
                        obtain rfl := Option.some.inj hf
                        exact q_rz hx hb hr hlocks hK (hP.sub [1, 2, 3, 4, 5, 6, 7, 8, 9, 10, 11, 12, 0] rfl) (hD.sub [1, 2, 3, 4, 5, 6, 7, 8, 9, 10, 11, 12, 0] (by decide) rfl) hS (isb_n hg) d_Ma_perform_139
                      · have hf := ifp cx hf
                        refine lv_aload_n hx hb d_Ma_perform_127 rfl (lv_at hl 0 rfl) ?_
                        obtain ⟨v15, e16, f17, hc, hf⟩ := bdp3 hf
                        refine q_ai (wr := [(o_sha, .inr (9, [.ref a_sha_state, .ref a_sha_w, .ref a_sha_chunk, .int u3, .long u4])), (a_sha_state, .inl (cy 1, 8, .inl u5)), (a_sha_w, .inl (cy 1, 64, .inl u6)), (a_sha_chunk, .inl (cy 0, 64, .inl u7)), (o_ripemd, .inr (8, [.ref a_ripemd_state, .ref a_ripemd_left, .ref a_ripemd_right, .ref a_ripemd_x])), (a_ripemd_state, .inl (cy 1, 5, .inl u8)), (a_ripemd_left, .inl (cy 1, 5, .inl u9)), (a_ripemd_right, .inl (cy 1, 5, .inl u10)), (a_ripemd_x, .inl (cy 1, 16, .inl u11)), (a_other, .inl (cy 1, 204, .inl u14))]) (va_runV (C := "CoinKeeper$Machine") (As := []) (rest := []) ⟨hx, hb, hml, hown, hts⟩ (c_Ma_within l D cy ad fu o (.ref o_sha) r_signatures (.ref o_ripemd) v_a_scriptEnd (.ref a_other) v_a_taken r_layout r_coin a_data a_main u1 i_ops i_ifs i_ifsNotTaken u2 i_tx i_in i_messageIsThere u12 u0 u13 _ hc H.size) ⟨q_cB hts gw_1231 gw_6 gw_1228 hdc_55 ⟨by decide, by decide⟩, hts _ gw_1230, hts _ gs_54⟩ (q_preV (q_pre (hP.sub [0, 10, 11] rfl) (hD.sub [0, 10, 11] (by decide) rfl) hK hSt hS (va_free hD hS hA [0, 10, 11] rfl) _) (va_recv hK (hP.sub [0, 10, 11] rfl) (ci := 6) (q0 := 0) rfl rfl)) rfl rfl hl.1 rfl (lv_room (Nat.le_of_ble_eq_true rfl)) d_Ma_perform_128 ⟨Nat.le_of_ble_eq_true rfl, Nat.le_of_ble_eq_true rfl⟩) hP hD hS hA [0, 10, 11] [1, 2, 3, 4, 5, 6, 7, 8, 9, 12] rfl rfl (by decide) (by decide) (fun H locs hP hD hS => ?_)
                        clear hc
                        have hP : va_P D classes [(o_sha, .inr (9, [.ref a_sha_state, .ref a_sha_w, .ref a_sha_chunk, .int u3, .long u4])), (a_sha_state, .inl (cy 1, 8, .inl u5)), (a_sha_w, .inl (cy 1, 64, .inl u6)), (a_sha_chunk, .inl (cy 0, 64, .inl u7)), (o_ripemd, .inr (8, [.ref a_ripemd_state, .ref a_ripemd_left, .ref a_ripemd_right, .ref a_ripemd_x])), (a_ripemd_state, .inl (cy 1, 5, .inl u8)), (a_ripemd_left, .inl (cy 1, 5, .inl u9)), (a_ripemd_right, .inl (cy 1, 5, .inl u10)), (a_ripemd_x, .inl (cy 1, 16, .inl u11)), (a_other, .inl (cy 1, 204, .inl u14)), (o, .inr (6, [.ref o_sha, r_signatures, .ref o_ripemd, .ref a_data, v_a_scriptEnd, .ref a_main, .ref a_other, v_a_taken, .int e16, .int u1, .int i_ops, .int i_ifs, .int i_ifsNotTaken, .int u2, r_layout, .int i_tx, .int i_in, r_coin, .int i_messageIsThere])), (a_data, .inl (cy 0, 14928, .inl u12)), (a_main, .inl (cy 1, 204, .inl f17))] H := hP
                        have hD : va_D A [(o_sha, .inr (9, [.ref a_sha_state, .ref a_sha_w, .ref a_sha_chunk, .int u3, .long u4])), (a_sha_state, .inl (cy 1, 8, .inl u5)), (a_sha_w, .inl (cy 1, 64, .inl u6)), (a_sha_chunk, .inl (cy 0, 64, .inl u7)), (o_ripemd, .inr (8, [.ref a_ripemd_state, .ref a_ripemd_left, .ref a_ripemd_right, .ref a_ripemd_x])), (a_ripemd_state, .inl (cy 1, 5, .inl u8)), (a_ripemd_left, .inl (cy 1, 5, .inl u9)), (a_ripemd_right, .inl (cy 1, 5, .inl u10)), (a_ripemd_x, .inl (cy 1, 16, .inl u11)), (a_other, .inl (cy 1, 204, .inl u14)), (o, .inr (6, [.ref o_sha, r_signatures, .ref o_ripemd, .ref a_data, v_a_scriptEnd, .ref a_main, .ref a_other, v_a_taken, .int e16, .int u1, .int i_ops, .int i_ifs, .int i_ifsNotTaken, .int u2, r_layout, .int i_tx, .int i_in, r_coin, .int i_messageIsThere])), (a_data, .inl (cy 0, 14928, .inl u12)), (a_main, .inl (cy 1, 204, .inl f17))] := hD
                        refine lv_goto (tgt := 139) hx hb d_Ma_perform_131 (by decide) ?_
                        obtain ⟨hg, hf⟩ := gdp hf
                        obtain rfl := Option.some.inj hf
                        exact q_rz hx hb hr hlocks hK (hP.sub [10, 0, 1, 2, 3, 4, 5, 6, 7, 8, 11, 12, 9] rfl) (hD.sub [10, 0, 1, 2, 3, 4, 5, 6, 7, 8, 11, 12, 9] (by decide) rfl) hS (isb_n hg) d_Ma_perform_139
                    · have hf := ifn cx hf
                      refine lv_aload_n hx hb d_Ma_perform_114 rfl (lv_at hl 0 rfl) ?_
                      refine lv_iload_n hx hb d_Ma_perform_115 rfl (lv_at hl 1 rfl) ?_
                      obtain ⟨v18, e19, e20, f21, f22, hc, hf⟩ := bdp5 hf
                      refine q_ai (wr := [(o_sha, .inr (9, [.ref a_sha_state, .ref a_sha_w, .ref a_sha_chunk, .int u3, .long u4])), (a_sha_state, .inl (cy 1, 8, .inl u5)), (a_sha_w, .inl (cy 1, 64, .inl u6)), (a_sha_chunk, .inl (cy 0, 64, .inl u7)), (o_ripemd, .inr (8, [.ref a_ripemd_state, .ref a_ripemd_left, .ref a_ripemd_right, .ref a_ripemd_x])), (a_ripemd_state, .inl (cy 1, 5, .inl u8)), (a_ripemd_left, .inl (cy 1, 5, .inl u9)), (a_ripemd_right, .inl (cy 1, 5, .inl u10)), (a_ripemd_x, .inl (cy 1, 16, .inl u11)), (a_other, .inl (cy 1, 204, .inl u14))]) (va_runV (C := "CoinKeeper$Machine") (As := [.int a1]) (rest := []) ⟨hx, hb, hml, hown, hts⟩ (c_Ma_joinNumbers l D cy ad fu o (.ref o_sha) r_signatures (.ref o_ripemd) v_a_scriptEnd (.ref a_other) v_a_taken r_layout r_coin a_data a_main u1 i_ops i_ifs i_ifsNotTaken i_tx i_in i_messageIsThere a1 u0 u2 u12 u13 _ hc H.size) ⟨q_cB hts gw_1222 gw_6 gw_1219 hdc_56 ⟨by decide, by decide⟩, hts _ gw_1221, hts _ gs_53⟩ (q_preV (q_pre (hP.sub [0, 10, 11] rfl) (hD.sub [0, 10, 11] (by decide) rfl) hK hSt hS (va_free hD hS hA [0, 10, 11] rfl) _) (va_recv hK (hP.sub [0, 10, 11] rfl) (ci := 6) (q0 := 0) rfl rfl)) rfl rfl hl.1 rfl (lv_room (Nat.le_of_ble_eq_true rfl)) d_Ma_perform_116 ⟨Nat.le_of_ble_eq_true rfl, Nat.le_of_ble_eq_true rfl⟩) hP hD hS hA [0, 10, 11] [1, 2, 3, 4, 5, 6, 7, 8, 9, 12] rfl rfl (by decide) (by decide) (fun H locs hP hD hS => ?_)
                      clear hc
                      have hP : va_P D classes [(o_sha, .inr (9, [.ref a_sha_state, .ref a_sha_w, .ref a_sha_chunk, .int u3, .long u4])), (a_sha_state, .inl (cy 1, 8, .inl u5)), (a_sha_w, .inl (cy 1, 64, .inl u6)), (a_sha_chunk, .inl (cy 0, 64, .inl u7)), (o_ripemd, .inr (8, [.ref a_ripemd_state, .ref a_ripemd_left, .ref a_ripemd_right, .ref a_ripemd_x])), (a_ripemd_state, .inl (cy 1, 5, .inl u8)), (a_ripemd_left, .inl (cy 1, 5, .inl u9)), (a_ripemd_right, .inl (cy 1, 5, .inl u10)), (a_ripemd_x, .inl (cy 1, 16, .inl u11)), (a_other, .inl (cy 1, 204, .inl u14)), (o, .inr (6, [.ref o_sha, r_signatures, .ref o_ripemd, .ref a_data, v_a_scriptEnd, .ref a_main, .ref a_other, v_a_taken, .int e19, .int u1, .int i_ops, .int i_ifs, .int i_ifsNotTaken, .int e20, r_layout, .int i_tx, .int i_in, r_coin, .int i_messageIsThere])), (a_data, .inl (cy 0, 14928, .inl f21)), (a_main, .inl (cy 1, 204, .inl f22))] H := hP
                      have hD : va_D A [(o_sha, .inr (9, [.ref a_sha_state, .ref a_sha_w, .ref a_sha_chunk, .int u3, .long u4])), (a_sha_state, .inl (cy 1, 8, .inl u5)), (a_sha_w, .inl (cy 1, 64, .inl u6)), (a_sha_chunk, .inl (cy 0, 64, .inl u7)), (o_ripemd, .inr (8, [.ref a_ripemd_state, .ref a_ripemd_left, .ref a_ripemd_right, .ref a_ripemd_x])), (a_ripemd_state, .inl (cy 1, 5, .inl u8)), (a_ripemd_left, .inl (cy 1, 5, .inl u9)), (a_ripemd_right, .inl (cy 1, 5, .inl u10)), (a_ripemd_x, .inl (cy 1, 16, .inl u11)), (a_other, .inl (cy 1, 204, .inl u14)), (o, .inr (6, [.ref o_sha, r_signatures, .ref o_ripemd, .ref a_data, v_a_scriptEnd, .ref a_main, .ref a_other, v_a_taken, .int e19, .int u1, .int i_ops, .int i_ifs, .int i_ifsNotTaken, .int e20, r_layout, .int i_tx, .int i_in, r_coin, .int i_messageIsThere])), (a_data, .inl (cy 0, 14928, .inl f21)), (a_main, .inl (cy 1, 204, .inl f22))] := hD
                      obtain ⟨hg, hf⟩ := gdp hf
                      obtain rfl := Option.some.inj hf
                      exact q_rz hx hb hr hlocks hK (hP.sub [10, 0, 1, 2, 3, 4, 5, 6, 7, 8, 11, 12, 9] rfl) (hD.sub [10, 0, 1, 2, 3, 4, 5, 6, 7, 8, 11, 12, 9] (by decide) rfl) hS (isb_n hg) d_Ma_perform_119
                  · have hf := ifn cx hf
                    refine lv_aload_n hx hb d_Ma_perform_101 rfl (lv_at hl 0 rfl) ?_
                    refine lv_iload_n hx hb d_Ma_perform_102 rfl (lv_at hl 1 rfl) ?_
                    obtain ⟨v23, e24, e25, f26, f27, hc, hf⟩ := bdp5 hf
                    refine q_ai (wr := [(o_sha, .inr (9, [.ref a_sha_state, .ref a_sha_w, .ref a_sha_chunk, .int u3, .long u4])), (a_sha_state, .inl (cy 1, 8, .inl u5)), (a_sha_w, .inl (cy 1, 64, .inl u6)), (a_sha_chunk, .inl (cy 0, 64, .inl u7)), (o_ripemd, .inr (8, [.ref a_ripemd_state, .ref a_ripemd_left, .ref a_ripemd_right, .ref a_ripemd_x])), (a_ripemd_state, .inl (cy 1, 5, .inl u8)), (a_ripemd_left, .inl (cy 1, 5, .inl u9)), (a_ripemd_right, .inl (cy 1, 5, .inl u10)), (a_ripemd_x, .inl (cy 1, 16, .inl u11)), (a_other, .inl (cy 1, 204, .inl u14))]) (va_runV (C := "CoinKeeper$Machine") (As := [.int a1]) (rest := []) ⟨hx, hb, hml, hown, hts⟩ (c_Ma_changeNumber l D cy ad fu o (.ref o_sha) r_signatures (.ref o_ripemd) v_a_scriptEnd (.ref a_other) v_a_taken r_layout r_coin a_data a_main u1 i_ops i_ifs i_ifsNotTaken i_tx i_in i_messageIsThere a1 u0 u2 u12 u13 _ hc H.size) ⟨q_cB hts gw_1218 gw_6 gw_1215 hdc_57 ⟨by decide, by decide⟩, hts _ gw_1217, hts _ gs_52⟩ (q_preV (q_pre (hP.sub [0, 10, 11] rfl) (hD.sub [0, 10, 11] (by decide) rfl) hK hSt hS (va_free hD hS hA [0, 10, 11] rfl) _) (va_recv hK (hP.sub [0, 10, 11] rfl) (ci := 6) (q0 := 0) rfl rfl)) rfl rfl hl.1 rfl (lv_room (Nat.le_of_ble_eq_true rfl)) d_Ma_perform_103 ⟨Nat.le_of_ble_eq_true rfl, Nat.le_of_ble_eq_true rfl⟩) hP hD hS hA [0, 10, 11] [1, 2, 3, 4, 5, 6, 7, 8, 9, 12] rfl rfl (by decide) (by decide) (fun H locs hP hD hS => ?_)
                    clear hc
                    have hP : va_P D classes [(o_sha, .inr (9, [.ref a_sha_state, .ref a_sha_w, .ref a_sha_chunk, .int u3, .long u4])), (a_sha_state, .inl (cy 1, 8, .inl u5)), (a_sha_w, .inl (cy 1, 64, .inl u6)), (a_sha_chunk, .inl (cy 0, 64, .inl u7)), (o_ripemd, .inr (8, [.ref a_ripemd_state, .ref a_ripemd_left, .ref a_ripemd_right, .ref a_ripemd_x])), (a_ripemd_state, .inl (cy 1, 5, .inl u8)), (a_ripemd_left, .inl (cy 1, 5, .inl u9)), (a_ripemd_right, .inl (cy 1, 5, .inl u10)), (a_ripemd_x, .inl (cy 1, 16, .inl u11)), (a_other, .inl (cy 1, 204, .inl u14)), (o, .inr (6, [.ref o_sha, r_signatures, .ref o_ripemd, .ref a_data, v_a_scriptEnd, .ref a_main, .ref a_other, v_a_taken, .int e24, .int u1, .int i_ops, .int i_ifs, .int i_ifsNotTaken, .int e25, r_layout, .int i_tx, .int i_in, r_coin, .int i_messageIsThere])), (a_data, .inl (cy 0, 14928, .inl f26)), (a_main, .inl (cy 1, 204, .inl f27))] H := hP
                    have hD : va_D A [(o_sha, .inr (9, [.ref a_sha_state, .ref a_sha_w, .ref a_sha_chunk, .int u3, .long u4])), (a_sha_state, .inl (cy 1, 8, .inl u5)), (a_sha_w, .inl (cy 1, 64, .inl u6)), (a_sha_chunk, .inl (cy 0, 64, .inl u7)), (o_ripemd, .inr (8, [.ref a_ripemd_state, .ref a_ripemd_left, .ref a_ripemd_right, .ref a_ripemd_x])), (a_ripemd_state, .inl (cy 1, 5, .inl u8)), (a_ripemd_left, .inl (cy 1, 5, .inl u9)), (a_ripemd_right, .inl (cy 1, 5, .inl u10)), (a_ripemd_x, .inl (cy 1, 16, .inl u11)), (a_other, .inl (cy 1, 204, .inl u14)), (o, .inr (6, [.ref o_sha, r_signatures, .ref o_ripemd, .ref a_data, v_a_scriptEnd, .ref a_main, .ref a_other, v_a_taken, .int e24, .int u1, .int i_ops, .int i_ifs, .int i_ifsNotTaken, .int e25, r_layout, .int i_tx, .int i_in, r_coin, .int i_messageIsThere])), (a_data, .inl (cy 0, 14928, .inl f26)), (a_main, .inl (cy 1, 204, .inl f27))] := hD
                    obtain ⟨hg, hf⟩ := gdp hf
                    obtain rfl := Option.some.inj hf
                    exact q_rz hx hb hr hlocks hK (hP.sub [10, 0, 1, 2, 3, 4, 5, 6, 7, 8, 11, 12, 9] rfl) (hD.sub [10, 0, 1, 2, 3, 4, 5, 6, 7, 8, 11, 12, 9] (by decide) rfl) hS (isb_n hg) d_Ma_perform_106
                · have hf := ifp cx hf
                  exact wb_Ma_perform_88 (fu := fu) F _ _ _ _ _ _ _ _ _ _ _ _ _ _ _ _ _ hf _ _ _ hP hD hS (lv_sub hl [0, 1] rfl)
            · have hf := ifn cx hf
              refine lv_aload_n hx hb d_Ma_perform_68 rfl (lv_at hl 0 rfl) ?_
              refine lv_iload_n hx hb d_Ma_perform_69 rfl (lv_at hl 1 rfl) ?_
              obtain ⟨v28, e29, e30, f31, f32, hc, hf⟩ := bdp5 hf
              refine q_ai (wr := [(o_sha, .inr (9, [.ref a_sha_state, .ref a_sha_w, .ref a_sha_chunk, .int u3, .long u4])), (a_sha_state, .inl (cy 1, 8, .inl u5)), (a_sha_w, .inl (cy 1, 64, .inl u6)), (a_sha_chunk, .inl (cy 0, 64, .inl u7)), (o_ripemd, .inr (8, [.ref a_ripemd_state, .ref a_ripemd_left, .ref a_ripemd_right, .ref a_ripemd_x])), (a_ripemd_state, .inl (cy 1, 5, .inl u8)), (a_ripemd_left, .inl (cy 1, 5, .inl u9)), (a_ripemd_right, .inl (cy 1, 5, .inl u10)), (a_ripemd_x, .inl (cy 1, 16, .inl u11)), (a_other, .inl (cy 1, 204, .inl u14))]) (va_runV (C := "CoinKeeper$Machine") (As := [.int a1]) (rest := []) ⟨hx, hb, hml, hown, hts⟩ (c_Ma_arrange l D cy ad fu o (.ref o_sha) r_signatures (.ref o_ripemd) v_a_scriptEnd (.ref a_other) v_a_taken r_layout r_coin a_data a_main u1 i_ops i_ifs i_ifsNotTaken i_tx i_in i_messageIsThere a1 u0 u2 u12 u13 _ hc H.size) ⟨q_cB hts gw_1195 gw_6 gw_1192 hdc_58 ⟨by decide, by decide⟩, hts _ gw_1194, hts _ gs_48⟩ (q_preV (q_pre (hP.sub [0, 10, 11] rfl) (hD.sub [0, 10, 11] (by decide) rfl) hK hSt hS (va_free hD hS hA [0, 10, 11] rfl) _) (va_recv hK (hP.sub [0, 10, 11] rfl) (ci := 6) (q0 := 0) rfl rfl)) rfl rfl hl.1 rfl (lv_room (Nat.le_of_ble_eq_true rfl)) d_Ma_perform_70 ⟨Nat.le_of_ble_eq_true rfl, Nat.le_of_ble_eq_true rfl⟩) hP hD hS hA [0, 10, 11] [1, 2, 3, 4, 5, 6, 7, 8, 9, 12] rfl rfl (by decide) (by decide) (fun H locs hP hD hS => ?_)
              clear hc
              have hP : va_P D classes [(o_sha, .inr (9, [.ref a_sha_state, .ref a_sha_w, .ref a_sha_chunk, .int u3, .long u4])), (a_sha_state, .inl (cy 1, 8, .inl u5)), (a_sha_w, .inl (cy 1, 64, .inl u6)), (a_sha_chunk, .inl (cy 0, 64, .inl u7)), (o_ripemd, .inr (8, [.ref a_ripemd_state, .ref a_ripemd_left, .ref a_ripemd_right, .ref a_ripemd_x])), (a_ripemd_state, .inl (cy 1, 5, .inl u8)), (a_ripemd_left, .inl (cy 1, 5, .inl u9)), (a_ripemd_right, .inl (cy 1, 5, .inl u10)), (a_ripemd_x, .inl (cy 1, 16, .inl u11)), (a_other, .inl (cy 1, 204, .inl u14)), (o, .inr (6, [.ref o_sha, r_signatures, .ref o_ripemd, .ref a_data, v_a_scriptEnd, .ref a_main, .ref a_other, v_a_taken, .int e29, .int u1, .int i_ops, .int i_ifs, .int i_ifsNotTaken, .int e30, r_layout, .int i_tx, .int i_in, r_coin, .int i_messageIsThere])), (a_data, .inl (cy 0, 14928, .inl f31)), (a_main, .inl (cy 1, 204, .inl f32))] H := hP
              have hD : va_D A [(o_sha, .inr (9, [.ref a_sha_state, .ref a_sha_w, .ref a_sha_chunk, .int u3, .long u4])), (a_sha_state, .inl (cy 1, 8, .inl u5)), (a_sha_w, .inl (cy 1, 64, .inl u6)), (a_sha_chunk, .inl (cy 0, 64, .inl u7)), (o_ripemd, .inr (8, [.ref a_ripemd_state, .ref a_ripemd_left, .ref a_ripemd_right, .ref a_ripemd_x])), (a_ripemd_state, .inl (cy 1, 5, .inl u8)), (a_ripemd_left, .inl (cy 1, 5, .inl u9)), (a_ripemd_right, .inl (cy 1, 5, .inl u10)), (a_ripemd_x, .inl (cy 1, 16, .inl u11)), (a_other, .inl (cy 1, 204, .inl u14)), (o, .inr (6, [.ref o_sha, r_signatures, .ref o_ripemd, .ref a_data, v_a_scriptEnd, .ref a_main, .ref a_other, v_a_taken, .int e29, .int u1, .int i_ops, .int i_ifs, .int i_ifsNotTaken, .int e30, r_layout, .int i_tx, .int i_in, r_coin, .int i_messageIsThere])), (a_data, .inl (cy 0, 14928, .inl f31)), (a_main, .inl (cy 1, 204, .inl f32))] := hD
              obtain ⟨hg, hf⟩ := gdp hf
              obtain rfl := Option.some.inj hf
              exact q_rz hx hb hr hlocks hK (hP.sub [10, 0, 1, 2, 3, 4, 5, 6, 7, 8, 11, 12, 9] rfl) (hD.sub [10, 0, 1, 2, 3, 4, 5, 6, 7, 8, 11, 12, 9] (by decide) rfl) hS (isb_n hg) d_Ma_perform_73
          · have hf := ifp cx hf
            exact wb_Ma_perform_43 (fu := fu) F _ _ _ _ _ _ _ _ _ _ _ _ _ _ _ _ _ hf _ _ _ hP hD hS (lv_sub hl [0, 1] rfl)
      · have hf := ifp cx hf
        refine lv_aload_n hx hb d_Ma_perform_26 rfl (lv_at hl 0 rfl) ?_
        obtain ⟨v33, e34, hc, hf⟩ := bdp2 hf
        refine q_ai (wr := [(o_sha, .inr (9, [.ref a_sha_state, .ref a_sha_w, .ref a_sha_chunk, .int u3, .long u4])), (a_sha_state, .inl (cy 1, 8, .inl u5)), (a_sha_w, .inl (cy 1, 64, .inl u6)), (a_sha_chunk, .inl (cy 0, 64, .inl u7)), (o_ripemd, .inr (8, [.ref a_ripemd_state, .ref a_ripemd_left, .ref a_ripemd_right, .ref a_ripemd_x])), (a_ripemd_state, .inl (cy 1, 5, .inl u8)), (a_ripemd_left, .inl (cy 1, 5, .inl u9)), (a_ripemd_right, .inl (cy 1, 5, .inl u10)), (a_ripemd_x, .inl (cy 1, 16, .inl u11)), (a_other, .inl (cy 1, 204, .inl u14))]) (va_runV (C := "CoinKeeper$Machine") (As := []) (rest := []) ⟨hx, hb, hml, hown, hts⟩ (c_Ma_verifyTop l D cy ad fu o (.ref o_sha) r_signatures (.ref o_ripemd) v_a_scriptEnd (.ref a_other) v_a_taken r_layout r_coin a_data a_main u1 i_ops i_ifs i_ifsNotTaken u2 i_tx i_in i_messageIsThere u12 u13 u0 _ hc H.size) ⟨q_cB hts gw_1171 gw_6 gw_1168 hdc_46 ⟨by decide, by decide⟩, hts _ gw_1170, hts _ gs_42⟩ (q_preV (q_pre (hP.sub [0, 10, 11] rfl) (hD.sub [0, 10, 11] (by decide) rfl) hK hSt hS (va_free hD hS hA [0, 10, 11] rfl) _) (va_recv hK (hP.sub [0, 10, 11] rfl) (ci := 6) (q0 := 0) rfl rfl)) rfl rfl hl.1 rfl (lv_room (Nat.le_of_ble_eq_true rfl)) d_Ma_perform_27 ⟨Nat.le_of_ble_eq_true rfl, Nat.le_of_ble_eq_true rfl⟩) hP hD hS hA [0, 10, 11] [1, 2, 3, 4, 5, 6, 7, 8, 9, 12] rfl rfl (by decide) (by decide) (fun H locs hP hD hS => ?_)
        clear hc
        have hP : va_P D classes [(o_sha, .inr (9, [.ref a_sha_state, .ref a_sha_w, .ref a_sha_chunk, .int u3, .long u4])), (a_sha_state, .inl (cy 1, 8, .inl u5)), (a_sha_w, .inl (cy 1, 64, .inl u6)), (a_sha_chunk, .inl (cy 0, 64, .inl u7)), (o_ripemd, .inr (8, [.ref a_ripemd_state, .ref a_ripemd_left, .ref a_ripemd_right, .ref a_ripemd_x])), (a_ripemd_state, .inl (cy 1, 5, .inl u8)), (a_ripemd_left, .inl (cy 1, 5, .inl u9)), (a_ripemd_right, .inl (cy 1, 5, .inl u10)), (a_ripemd_x, .inl (cy 1, 16, .inl u11)), (a_other, .inl (cy 1, 204, .inl u14)), (o, .inr (6, [.ref o_sha, r_signatures, .ref o_ripemd, .ref a_data, v_a_scriptEnd, .ref a_main, .ref a_other, v_a_taken, .int e34, .int u1, .int i_ops, .int i_ifs, .int i_ifsNotTaken, .int u2, r_layout, .int i_tx, .int i_in, r_coin, .int i_messageIsThere])), (a_data, .inl (cy 0, 14928, .inl u12)), (a_main, .inl (cy 1, 204, .inl u13))] H := hP
        have hD : va_D A [(o_sha, .inr (9, [.ref a_sha_state, .ref a_sha_w, .ref a_sha_chunk, .int u3, .long u4])), (a_sha_state, .inl (cy 1, 8, .inl u5)), (a_sha_w, .inl (cy 1, 64, .inl u6)), (a_sha_chunk, .inl (cy 0, 64, .inl u7)), (o_ripemd, .inr (8, [.ref a_ripemd_state, .ref a_ripemd_left, .ref a_ripemd_right, .ref a_ripemd_x])), (a_ripemd_state, .inl (cy 1, 5, .inl u8)), (a_ripemd_left, .inl (cy 1, 5, .inl u9)), (a_ripemd_right, .inl (cy 1, 5, .inl u10)), (a_ripemd_x, .inl (cy 1, 16, .inl u11)), (a_other, .inl (cy 1, 204, .inl u14)), (o, .inr (6, [.ref o_sha, r_signatures, .ref o_ripemd, .ref a_data, v_a_scriptEnd, .ref a_main, .ref a_other, v_a_taken, .int e34, .int u1, .int i_ops, .int i_ifs, .int i_ifsNotTaken, .int u2, r_layout, .int i_tx, .int i_in, r_coin, .int i_messageIsThere])), (a_data, .inl (cy 0, 14928, .inl u12)), (a_main, .inl (cy 1, 204, .inl u13))] := hD
        obtain ⟨hg, hf⟩ := gdp hf
        obtain rfl := Option.some.inj hf
        exact q_rz hx hb hr hlocks hK (hP.sub [10, 0, 1, 2, 3, 4, 5, 6, 7, 8, 11, 12, 9] rfl) (hD.sub [10, 0, 1, 2, 3, 4, 5, 6, 7, 8, 11, 12, 9] (by decide) rfl) hS (isb_n hg) d_Ma_perform_30
    · have hf := ifp cx hf
      refine lv_iconst (v := 1) hx hb d_Ma_perform_18 (by decide) ?_
      obtain rfl := Option.some.inj hf
      exact q_rz hx hb hr hlocks hK hP hD hS (isb_n (v := 1) (by decide)) d_Ma_perform_19
  · have hf := ifn cx hf
    refine lv_aload_n hx hb d_Ma_perform_6 rfl (lv_at hl 0 rfl) ?_
    refine lv_iload_n hx hb d_Ma_perform_7 rfl (lv_at hl 1 rfl) ?_
    obtain ⟨v35, e36, f37, hc, hf⟩ := bdp3 hf
    refine q_ai (wr := [(o_sha, .inr (9, [.ref a_sha_state, .ref a_sha_w, .ref a_sha_chunk, .int u3, .long u4])), (a_sha_state, .inl (cy 1, 8, .inl u5)), (a_sha_w, .inl (cy 1, 64, .inl u6)), (a_sha_chunk, .inl (cy 0, 64, .inl u7)), (o_ripemd, .inr (8, [.ref a_ripemd_state, .ref a_ripemd_left, .ref a_ripemd_right, .ref a_ripemd_x])), (a_ripemd_state, .inl (cy 1, 5, .inl u8)), (a_ripemd_left, .inl (cy 1, 5, .inl u9)), (a_ripemd_right, .inl (cy 1, 5, .inl u10)), (a_ripemd_x, .inl (cy 1, 16, .inl u11)), (a_data, .inl (cy 0, 14928, .inl u12)), (a_other, .inl (cy 1, 204, .inl u14))]) (va_runV (C := "CoinKeeper$Machine") (As := [.int a1]) (rest := []) ⟨hx, hb, hml, hown, hts⟩ (c_Ma_pushSmall l D cy ad fu o (.ref o_sha) r_signatures (.ref o_ripemd) (.ref a_data) v_a_scriptEnd (.ref a_other) v_a_taken r_layout r_coin a_main u1 i_ops i_ifs i_ifsNotTaken u2 i_tx i_in i_messageIsThere a1 u0 u13 _ hc H.size) ⟨q_cB hts gw_1183 gw_6 gw_1180 hdc_59 ⟨by decide, by decide⟩, hts _ gw_1182, hts _ gs_45⟩ (q_preV (q_pre (hP.sub [0, 11] rfl) (hD.sub [0, 11] (by decide) rfl) hK hSt hS (va_free hD hS hA [0, 11] rfl) _) (va_recv hK (hP.sub [0, 11] rfl) (ci := 6) (q0 := 0) rfl rfl)) rfl rfl hl.1 rfl (lv_room (Nat.le_of_ble_eq_true rfl)) d_Ma_perform_8 ⟨Nat.le_of_ble_eq_true rfl, Nat.le_of_ble_eq_true rfl⟩) hP hD hS hA [0, 11] [1, 2, 3, 4, 5, 6, 7, 8, 9, 10, 12] rfl rfl (by decide) (by decide) (fun H locs hP hD hS => ?_)
    clear hc
    have hP : va_P D classes [(o_sha, .inr (9, [.ref a_sha_state, .ref a_sha_w, .ref a_sha_chunk, .int u3, .long u4])), (a_sha_state, .inl (cy 1, 8, .inl u5)), (a_sha_w, .inl (cy 1, 64, .inl u6)), (a_sha_chunk, .inl (cy 0, 64, .inl u7)), (o_ripemd, .inr (8, [.ref a_ripemd_state, .ref a_ripemd_left, .ref a_ripemd_right, .ref a_ripemd_x])), (a_ripemd_state, .inl (cy 1, 5, .inl u8)), (a_ripemd_left, .inl (cy 1, 5, .inl u9)), (a_ripemd_right, .inl (cy 1, 5, .inl u10)), (a_ripemd_x, .inl (cy 1, 16, .inl u11)), (a_data, .inl (cy 0, 14928, .inl u12)), (a_other, .inl (cy 1, 204, .inl u14)), (o, .inr (6, [.ref o_sha, r_signatures, .ref o_ripemd, .ref a_data, v_a_scriptEnd, .ref a_main, .ref a_other, v_a_taken, .int e36, .int u1, .int i_ops, .int i_ifs, .int i_ifsNotTaken, .int u2, r_layout, .int i_tx, .int i_in, r_coin, .int i_messageIsThere])), (a_main, .inl (cy 1, 204, .inl f37))] H := hP
    have hD : va_D A [(o_sha, .inr (9, [.ref a_sha_state, .ref a_sha_w, .ref a_sha_chunk, .int u3, .long u4])), (a_sha_state, .inl (cy 1, 8, .inl u5)), (a_sha_w, .inl (cy 1, 64, .inl u6)), (a_sha_chunk, .inl (cy 0, 64, .inl u7)), (o_ripemd, .inr (8, [.ref a_ripemd_state, .ref a_ripemd_left, .ref a_ripemd_right, .ref a_ripemd_x])), (a_ripemd_state, .inl (cy 1, 5, .inl u8)), (a_ripemd_left, .inl (cy 1, 5, .inl u9)), (a_ripemd_right, .inl (cy 1, 5, .inl u10)), (a_ripemd_x, .inl (cy 1, 16, .inl u11)), (a_data, .inl (cy 0, 14928, .inl u12)), (a_other, .inl (cy 1, 204, .inl u14)), (o, .inr (6, [.ref o_sha, r_signatures, .ref o_ripemd, .ref a_data, v_a_scriptEnd, .ref a_main, .ref a_other, v_a_taken, .int e36, .int u1, .int i_ops, .int i_ifs, .int i_ifsNotTaken, .int u2, r_layout, .int i_tx, .int i_in, r_coin, .int i_messageIsThere])), (a_main, .inl (cy 1, 204, .inl f37))] := hD
    obtain ⟨hg, hf⟩ := gdp hf
    obtain rfl := Option.some.inj hf
    exact q_rz hx hb hr hlocks hK (hP.sub [11, 0, 1, 2, 3, 4, 5, 6, 7, 8, 9, 12, 10] rfl) (hD.sub [11, 0, 1, 2, 3, 4, 5, 6, 7, 8, 9, 12, 10] (by decide) rfl) hS (isb_n hg) d_Ma_perform_11
theorem c_Ma_perform (l : Launch) (D : va_G) (cy : Nat → ClassId) (ad : Nat → Nat) (fu : Nat) (o : Nat) (r_signatures : Value) (v_a_scriptEnd : Value) (v_a_taken : Value) (r_layout : Value) (r_coin : Value) (o_sha : Nat) (a_sha_state : Nat) (a_sha_w : Nat) (a_sha_chunk : Nat) (o_ripemd : Nat) (a_ripemd_state : Nat) (a_ripemd_left : Nat) (a_ripemd_right : Nat) (a_ripemd_x : Nat) (a_data : Nat) (a_main : Nat) (a_other : Nat) (i_ops : Int32) (i_ifs : Int32) (i_ifsNotTaken : Int32) (i_tx : Int32) (i_in : Int32) (i_messageIsThere : Int32) (a1 : Int32) (u0 : Int32) (u1 : Int32) (u2 : Int32) (u3 : Int32) (u4 : Int64) (u5 : Nat → Int32) (u6 : Nat → Int32) (u7 : Nat → Int32) (u8 : Nat → Int32) (u9 : Nat → Int32) (u10 : Nat → Int32) (u11 : Nat → Int32) (u12 : Nat → Int32) (u13 : Nat → Int32) (u14 : Nat → Int32) (res : Int32 × Int32 × Int32 × Int32 × Int32 × Int64 × (Nat → Int32) × (Nat → Int32) × (Nat → Int32) × (Nat → Int32) × (Nat → Int32) × (Nat → Int32) × (Nat → Int32) × (Nat → Int32) × (Nat → Int32) × (Nat → Int32)) (hf : x_Ma_perform fu i_ops i_ifs i_ifsNotTaken i_tx i_in i_messageIsThere a1 u0 u1 u2 u3 u4 u5 u6 u7 u8 u9 u10 u11 u12 u13 u14 = some res) (sz : Nat) : Met l ({ cls := "CoinKeeper$Machine", name := "perform", desc := "(I)Z" } : Jvm.MethodName) (.code ({ cls := "CoinKeeper$Machine", name := "perform", desc := "(I)Z" } : Jvm.MethodName) b_Ma_perform 2 (some .boolean) :: gw) rm_Ma_perform (va_Pc [.ref o, .int a1] (Pr D cy ad [(o, .inr (6, [.ref o_sha, r_signatures, .ref o_ripemd, .ref a_data, v_a_scriptEnd, .ref a_main, .ref a_other, v_a_taken, .int u0, .int u1, .int i_ops, .int i_ifs, .int i_ifsNotTaken, .int u2, r_layout, .int i_tx, .int i_in, r_coin, .int i_messageIsThere])), (o_sha, .inr (9, [.ref a_sha_state, .ref a_sha_w, .ref a_sha_chunk, .int u3, .long u4])), (a_sha_state, .inl (cy 1, 8, .inl u5)), (a_sha_w, .inl (cy 1, 64, .inl u6)), (a_sha_chunk, .inl (cy 0, 64, .inl u7)), (o_ripemd, .inr (8, [.ref a_ripemd_state, .ref a_ripemd_left, .ref a_ripemd_right, .ref a_ripemd_x])), (a_ripemd_state, .inl (cy 1, 5, .inl u8)), (a_ripemd_left, .inl (cy 1, 5, .inl u9)), (a_ripemd_right, .inl (cy 1, 5, .inl u10)), (a_ripemd_x, .inl (cy 1, 16, .inl u11)), (a_data, .inl (cy 0, 14928, .inl u12)), (a_main, .inl (cy 1, 204, .inl u13)), (a_other, .inl (cy 1, 204, .inl u14))] sz)) (q_Ma_perform D cy (va_A [(o, .inr (6, [.ref o_sha, r_signatures, .ref o_ripemd, .ref a_data, v_a_scriptEnd, .ref a_main, .ref a_other, v_a_taken, .int u0, .int u1, .int i_ops, .int i_ifs, .int i_ifsNotTaken, .int u2, r_layout, .int i_tx, .int i_in, r_coin, .int i_messageIsThere])), (o_sha, .inr (9, [.ref a_sha_state, .ref a_sha_w, .ref a_sha_chunk, .int u3, .long u4])), (a_sha_state, .inl (cy 1, 8, .inl u5)), (a_sha_w, .inl (cy 1, 64, .inl u6)), (a_sha_chunk, .inl (cy 0, 64, .inl u7)), (o_ripemd, .inr (8, [.ref a_ripemd_state, .ref a_ripemd_left, .ref a_ripemd_right, .ref a_ripemd_x])), (a_ripemd_state, .inl (cy 1, 5, .inl u8)), (a_ripemd_left, .inl (cy 1, 5, .inl u9)), (a_ripemd_right, .inl (cy 1, 5, .inl u10)), (a_ripemd_x, .inl (cy 1, 16, .inl u11)), (a_data, .inl (cy 0, 14928, .inl u12)), (a_main, .inl (cy 1, 204, .inl u13)), (a_other, .inl (cy 1, 204, .inl u14))] sz) o r_signatures v_a_scriptEnd v_a_taken r_layout r_coin o_sha a_sha_state a_sha_w a_sha_chunk o_ripemd a_ripemd_state a_ripemd_left a_ripemd_right a_ripemd_x a_data a_main a_other i_ops i_ifs i_ifsNotTaken i_tx i_in i_messageIsThere res) 0 0 (va_A [(o, .inr (6, [.ref o_sha, r_signatures, .ref o_ripemd, .ref a_data, v_a_scriptEnd, .ref a_main, .ref a_other, v_a_taken, .int u0, .int u1, .int i_ops, .int i_ifs, .int i_ifsNotTaken, .int u2, r_layout, .int i_tx, .int i_in, r_coin, .int i_messageIsThere])), (o_sha, .inr (9, [.ref a_sha_state, .ref a_sha_w, .ref a_sha_chunk, .int u3, .long u4])), (a_sha_state, .inl (cy 1, 8, .inl u5)), (a_sha_w, .inl (cy 1, 64, .inl u6)), (a_sha_chunk, .inl (cy 0, 64, .inl u7)), (o_ripemd, .inr (8, [.ref a_ripemd_state, .ref a_ripemd_left, .ref a_ripemd_right, .ref a_ripemd_x])), (a_ripemd_state, .inl (cy 1, 5, .inl u8)), (a_ripemd_left, .inl (cy 1, 5, .inl u9)), (a_ripemd_right, .inl (cy 1, 5, .inl u10)), (a_ripemd_x, .inl (cy 1, 16, .inl u11)), (a_data, .inl (cy 0, 14928, .inl u12)), (a_main, .inl (cy 1, 204, .inl u13)), (a_other, .inl (cy 1, 204, .inl u14))] sz) :=
  q_met (Qc := fun A => q_Ma_perform D cy A o r_signatures v_a_scriptEnd v_a_taken r_layout r_coin o_sha a_sha_state a_sha_w a_sha_chunk o_ripemd a_ripemd_state a_ripemd_left a_ripemd_right a_ripemd_x a_data a_main a_other i_ops i_ifs i_ifsNotTaken i_tx i_in i_messageIsThere res) (by decide) rfl rfl (Nat.le_of_ble_eq_true rfl) (fun p e s m below meth c ls F hP hD hS hl => we_Ma_perform (fu := fu) F a1 u0 u1 u2 u3 u4 u5 u6 u7 u8 u9 u10 u11 u12 u13 u14 res hf _ _ _ hP hD hS hl) sz
abbrev b_Ma_checkOne : ByteArray := prog_7_method_29_code
theorem d_Ma_checkOne_0 : decode b_Ma_checkOne 0 = .ok (.aload_n 0, 1) := by decide +kernel
theorem d_Ma_checkOne_1 : decode b_Ma_checkOne 1 = .ok (.getfield 73, 3) := by decide +kernel
theorem d_Ma_checkOne_4 : decode b_Ma_checkOne 4 = .ok (.iconst 2, 1) := by decide +kernel
theorem d_Ma_checkOne_5 : decode b_Ma_checkOne 5 = .ok (.if_icmp .ge 5, 3) := by decide +kernel
theorem d_Ma_checkOne_8 : decode b_Ma_checkOne 8 = .ok (.iconst 0, 1) := by decide +kernel
theorem d_Ma_checkOne_9 : decode b_Ma_checkOne 9 = .ok (.ireturn, 1) := by decide +kernel
theorem d_Ma_checkOne_10 : decode b_Ma_checkOne 10 = .ok (.aload_n 0, 1) := by decide +kernel
theorem d_Ma_checkOne_11 : decode b_Ma_checkOne 11 = .ok (.getfield 26, 3) := by decide +kernel
theorem d_Ma_checkOne_14 : decode b_Ma_checkOne 14 = .ok (.aload_n 0, 1) := by decide +kernel
theorem d_Ma_checkOne_15 : decode b_Ma_checkOne 15 = .ok (.getfield 73, 3) := by decide +kernel
theorem d_Ma_checkOne_18 : decode b_Ma_checkOne 18 = .ok (.iconst 2, 1) := by decide +kernel
theorem d_Ma_checkOne_19 : decode b_Ma_checkOne 19 = .ok (.isub, 1) := by decide +kernel
theorem d_Ma_checkOne_20 : decode b_Ma_checkOne 20 = .ok (.iaload, 1) := by decide +kernel
theorem d_Ma_checkOne_21 : decode b_Ma_checkOne 21 = .ok (.istore_n 2, 1) := by decide +kernel
theorem d_Ma_checkOne_22 : decode b_Ma_checkOne 22 = .ok (.aload_n 0, 1) := by decide +kernel
theorem d_Ma_checkOne_23 : decode b_Ma_checkOne 23 = .ok (.getfield 26, 3) := by decide +kernel
theorem d_Ma_checkOne_26 : decode b_Ma_checkOne 26 = .ok (.aload_n 0, 1) := by decide +kernel
theorem d_Ma_checkOne_27 : decode b_Ma_checkOne 27 = .ok (.getfield 73, 3) := by decide +kernel
theorem d_Ma_checkOne_30 : decode b_Ma_checkOne 30 = .ok (.iconst 1, 1) := by decide +kernel
theorem d_Ma_checkOne_31 : decode b_Ma_checkOne 31 = .ok (.isub, 1) := by decide +kernel
theorem d_Ma_checkOne_32 : decode b_Ma_checkOne 32 = .ok (.iaload, 1) := by decide +kernel
theorem d_Ma_checkOne_33 : decode b_Ma_checkOne 33 = .ok (.istore_n 3, 1) := by decide +kernel
theorem d_Ma_checkOne_34 : decode b_Ma_checkOne 34 = .ok (.aload_n 0, 1) := by decide +kernel
theorem d_Ma_checkOne_35 : decode b_Ma_checkOne 35 = .ok (.dup, 1) := by decide +kernel
theorem d_Ma_checkOne_36 : decode b_Ma_checkOne 36 = .ok (.getfield 73, 3) := by decide +kernel
theorem d_Ma_checkOne_39 : decode b_Ma_checkOne 39 = .ok (.iconst 2, 1) := by decide +kernel
theorem d_Ma_checkOne_40 : decode b_Ma_checkOne 40 = .ok (.isub, 1) := by decide +kernel
theorem d_Ma_checkOne_41 : decode b_Ma_checkOne 41 = .ok (.putfield 73, 3) := by decide +kernel
theorem d_Ma_checkOne_44 : decode b_Ma_checkOne 44 = .ok (.aload_n 0, 1) := by decide +kernel
theorem d_Ma_checkOne_45 : decode b_Ma_checkOne 45 = .ok (.invokevirtual 196, 3) := by decide +kernel
theorem d_Ma_checkOne_48 : decode b_Ma_checkOne 48 = .ok (.ifCond .eq 38, 3) := by decide +kernel
theorem d_Ma_checkOne_51 : decode b_Ma_checkOne 51 = .ok (.aload_n 0, 1) := by decide +kernel
theorem d_Ma_checkOne_52 : decode b_Ma_checkOne 52 = .ok (.getfield 40, 3) := by decide +kernel
theorem d_Ma_checkOne_55 : decode b_Ma_checkOne 55 = .ok (.aload_n 0, 1) := by decide +kernel
theorem d_Ma_checkOne_56 : decode b_Ma_checkOne 56 = .ok (.getfield 18, 3) := by decide +kernel
theorem d_Ma_checkOne_59 : decode b_Ma_checkOne 59 = .ok (.iconst 0, 1) := by decide +kernel
theorem d_Ma_checkOne_60 : decode b_Ma_checkOne 60 = .ok (.iload_n 3, 1) := by decide +kernel
theorem d_Ma_checkOne_61 : decode b_Ma_checkOne 61 = .ok (.invokestatic 117, 3) := by decide +kernel
theorem d_Ma_checkOne_64 : decode b_Ma_checkOne 64 = .ok (.iload_n 3, 1) := by decide +kernel
theorem d_Ma_checkOne_65 : decode b_Ma_checkOne 65 = .ok (.invokestatic 121, 3) := by decide +kernel
theorem d_Ma_checkOne_68 : decode b_Ma_checkOne 68 = .ok (.iload_n 2, 1) := by decide +kernel
theorem d_Ma_checkOne_69 : decode b_Ma_checkOne 69 = .ok (.invokestatic 117, 3) := by decide +kernel
theorem d_Ma_checkOne_72 : decode b_Ma_checkOne 72 = .ok (.iload_n 2, 1) := by decide +kernel
theorem d_Ma_checkOne_73 : decode b_Ma_checkOne 73 = .ok (.invokestatic 121, 3) := by decide +kernel
theorem d_Ma_checkOne_76 : decode b_Ma_checkOne 76 = .ok (.invokevirtual 199, 3) := by decide +kernel
theorem d_Ma_checkOne_79 : decode b_Ma_checkOne 79 = .ok (.ifCond .eq 7, 3) := by decide +kernel
theorem d_Ma_checkOne_82 : decode b_Ma_checkOne 82 = .ok (.iconst 1, 1) := by decide +kernel
theorem d_Ma_checkOne_83 : decode b_Ma_checkOne 83 = .ok (.goto 4, 3) := by decide +kernel
theorem d_Ma_checkOne_86 : decode b_Ma_checkOne 86 = .ok (.iconst 0, 1) := by decide +kernel
theorem d_Ma_checkOne_87 : decode b_Ma_checkOne 87 = .ok (.istore 4, 2) := by decide +kernel
theorem d_Ma_checkOne_89 : decode b_Ma_checkOne 89 = .ok (.aload_n 0, 1) := by decide +kernel
theorem d_Ma_checkOne_90 : decode b_Ma_checkOne 90 = .ok (.iload 4, 2) := by decide +kernel
theorem d_Ma_checkOne_92 : decode b_Ma_checkOne 92 = .ok (.ifCond .eq 9, 3) := by decide +kernel
theorem d_Ma_checkOne_95 : decode b_Ma_checkOne 95 = .ok (.sipush 8449, 3) := by decide +kernel
theorem d_Ma_checkOne_98 : decode b_Ma_checkOne 98 = .ok (.goto 4, 3) := by decide +kernel
theorem d_Ma_checkOne_101 : decode b_Ma_checkOne 101 = .ok (.iconst 0, 1) := by decide +kernel
theorem d_Ma_checkOne_102 : decode b_Ma_checkOne 102 = .ok (.invokevirtual 95, 3) := by decide +kernel
theorem d_Ma_checkOne_105 : decode b_Ma_checkOne 105 = .ok (.iload_n 1, 1) := by decide +kernel
theorem d_Ma_checkOne_106 : decode b_Ma_checkOne 106 = .ok (.sipush 172, 3) := by decide +kernel
theorem d_Ma_checkOne_109 : decode b_Ma_checkOne 109 = .ok (.if_icmp .eq 10, 3) := by decide +kernel
theorem d_Ma_checkOne_112 : decode b_Ma_checkOne 112 = .ok (.aload_n 0, 1) := by decide +kernel
theorem d_Ma_checkOne_113 : decode b_Ma_checkOne 113 = .ok (.invokevirtual 129, 3) := by decide +kernel
theorem d_Ma_checkOne_116 : decode b_Ma_checkOne 116 = .ok (.ifCond .eq 7, 3) := by decide +kernel
theorem d_Ma_checkOne_119 : decode b_Ma_checkOne 119 = .ok (.iconst 1, 1) := by decide +kernel
theorem d_Ma_checkOne_120 : decode b_Ma_checkOne 120 = .ok (.goto 4, 3) := by decide +kernel
theorem d_Ma_checkOne_123 : decode b_Ma_checkOne 123 = .ok (.iconst 0, 1) := by decide +kernel
theorem d_Ma_checkOne_124 : decode b_Ma_checkOne 124 = .ok (.ireturn, 1) := by decide +kernel
abbrev rm_Ma_checkOne : Room := { frames := 0, cells := 0, slots := 0, locals := 0 }
abbrev q_Ma_checkOne (D : va_G) (cy : Nat → ClassId) (A : Nat → Prop) (o : Nat) (v_o_sha : Value) (r_signatures : Value) (v_o_ripemd : Value) (v_a_data : Value) (v_a_scriptEnd : Value) (v_a_other : Value) (v_a_taken : Value) (r_layout : Value) (r_coin : Value) (a_main : Nat) (i_otherHeight : Int32) (i_ops : Int32) (i_ifs : Int32) (i_ifsNotTaken : Int32) (i_free : Int32) (i_tx : Int32) (i_in : Int32) (i_messageIsThere : Int32) (g_main : Nat → Int32) (res : Int32 × Int32) : Array Value → State → Outcome → State → Prop := va_Qi (fun r' (_ : Unit) => r' = res.1) (fun _ t => Po D cy A [(o, .inr (6, [v_o_sha, r_signatures, v_o_ripemd, v_a_data, v_a_scriptEnd, .ref a_main, v_a_other, v_a_taken, .int res.2, .int i_otherHeight, .int i_ops, .int i_ifs, .int i_ifsNotTaken, .int i_free, r_layout, .int i_tx, .int i_in, r_coin, .int i_messageIsThere])), (a_main, .inl (cy 1, 204, .inl g_main))] t) A
def I_Ma_checkOne_e (p : Program) (l : Launch) (e : Env) (s : State) (m : MethodId) (args : Array Value) (below : List Frame) (meth : Method) (c : Code) (D : va_G) (cy : Nat → ClassId) (A : Nat → Prop) (ad : Nat → Nat) (o : Nat) (v_o_sha : Value) (r_signatures : Value) (v_o_ripemd : Value) (v_a_data : Value) (v_a_scriptEnd : Value) (v_a_other : Value) (v_a_taken : Value) (r_layout : Value) (r_coin : Value) (a_main : Nat) (i_otherHeight : Int32) (i_ops : Int32) (i_ifs : Int32) (i_ifsNotTaken : Int32) (i_free : Int32) (i_tx : Int32) (i_in : Int32) (i_messageIsThere : Int32) (g_main : Nat → Int32) (k : Int32 → Int32 → Option (Int32 × Int32)) : Prop :=
  ∀ (a1 : Int32) (u0 : Int32) (res : Int32 × Int32), k a1 u0 = some res → ∀ (H : Heap) (locs : List Loc) (ls : Array Slot), va_P D classes [(o, .inr (6, [v_o_sha, r_signatures, v_o_ripemd, v_a_data, v_a_scriptEnd, .ref a_main, v_a_other, v_a_taken, .int u0, .int i_otherHeight, .int i_ops, .int i_ifs, .int i_ifsNotTaken, .int i_free, r_layout, .int i_tx, .int i_in, r_coin, .int i_messageIsThere])), (a_main, .inl (cy 1, 204, .inl g_main))] H → va_D A [(o, .inr (6, [v_o_sha, r_signatures, v_o_ripemd, v_a_data, v_a_scriptEnd, .ref a_main, v_a_other, v_a_taken, .int u0, .int i_otherHeight, .int i_ops, .int i_ifs, .int i_ifsNotTaken, .int i_free, r_layout, .int i_tx, .int i_in, r_coin, .int i_messageIsThere])), (a_main, .inl (cy 1, 204, .inl g_main))] → va_S A s.heap H locs → lv_has ls 5 [(0, .ref o), (1, .int a1)] → W p l e rm_Ma_checkOne s m args below meth c H locs 0 0 (MQ below (q_Ma_checkOne D cy A o v_o_sha r_signatures v_o_ripemd v_a_data v_a_scriptEnd v_a_other v_a_taken r_layout r_coin a_main i_otherHeight i_ops i_ifs i_ifsNotTaken i_free i_tx i_in i_messageIsThere g_main res) args s 0 0 A) (F0 m 0 ls [])
set_option maxHeartbeats 8000000 in
set_option maxRecDepth 100000 in
theorem we_Ma_checkOne {p : Program} {l : Launch} {e : Env} {s : State} {m : MethodId} {args : Array Value} {below : List Frame} {meth : Method} {c : Code} {D : va_G} {cy : Nat → ClassId} {A : Nat → Prop} {ad : Nat → Nat} {o : Nat} {v_o_sha : Value} {r_signatures : Value} {v_o_ripemd : Value} {v_a_data : Value} {v_a_scriptEnd : Value} {v_a_other : Value} {v_a_taken : Value} {r_layout : Value} {r_coin : Value} {a_main : Nat} {i_otherHeight : Int32} {i_ops : Int32} {i_ifs : Int32} {i_ifsNotTaken : Int32} {i_free : Int32} {i_tx : Int32} {i_in : Int32} {i_messageIsThere : Int32} {g_main : Nat → Int32} {fu : Nat} (F : Fx p s m args meth c b_Ma_checkOne 5 "CoinKeeper$Machine" "checkOne" (some .boolean) D cy ad A) : I_Ma_checkOne_e p l e s m args below meth c D cy A ad o v_o_sha r_signatures v_o_ripemd v_a_data v_a_scriptEnd v_a_other v_a_taken r_layout r_coin a_main i_otherHeight i_ops i_ifs i_ifsNotTaken i_free i_tx i_in i_messageIsThere g_main (x_Ma_checkOne fu i_otherHeight i_ops i_ifs i_ifsNotTaken i_free i_tx i_in i_messageIsThere g_main) := by
  obtain ⟨hx, hb, hr, hml, hown, hts, hlocks, hK, hA, hSt, hnm, hex⟩ := id F
  intro a1 u0 res hf H locs ls hP hD hS hl
  unfold x_Ma_checkOne at hf
  refine lv_aload_n hx hb d_Ma_checkOne_0 rfl (lv_at hl 0 rfl) ?_
  refine va_get (D := D) (ci := 6) (v := .int u0) (C := "CoinKeeper$Machine") (T := F_6) (N := 19) hx hb hts i_6 hown hK hP 0 rfl rfl 8 (by decide) (hts _ gw_212) (fun _ h9 => h9) rfl d_Ma_checkOne_1 ?_
  refine lv_iconst (v := 2) hx hb d_Ma_checkOne_4 (by decide) ?_
  refine lv_icmp_ge (tgt := 10) hx hb d_Ma_checkOne_5 (by decide) (fun cx => ?_) (fun cx => ?_)
  · have hf := ifp cx hf
    refine lv_aload_n hx hb d_Ma_checkOne_10 rfl (lv_at hl 0 rfl) ?_
    refine va_get (D := D) (ci := 6) (v := .ref a_main) (C := "CoinKeeper$Machine") (T := F_6) (N := 19) hx hb hts i_6 hown hK hP 0 rfl rfl 5 (by decide) (hts _ gw_209) (fun _ h9 => h9) rfl d_Ma_checkOne_11 ?_
    refine lv_aload_n hx hb d_Ma_checkOne_14 rfl (lv_at hl 0 rfl) ?_
    refine va_get (D := D) (ci := 6) (v := .int u0) (C := "CoinKeeper$Machine") (T := F_6) (N := 19) hx hb hts i_6 hown hK hP 0 rfl rfl 8 (by decide) (hts _ gw_212) (fun _ h9 => h9) rfl d_Ma_checkOne_15 ?_
    refine lv_iconst (v := 2) hx hb d_Ma_checkOne_18 (by decide) ?_
    refine lv_isub hx hb d_Ma_checkOne_19 ?_
    refine lv_topi (fun v1 ev => ?_)
    have hf := bn ev hf
    clear ev
    obtain ⟨hg, hf⟩ := gdp hf
    refine va_iald hx hb hK hP 1 1 rfl rfl (inb_in hg) d_Ma_checkOne_20 ?_
    refine lv_topi (fun v2 ev => ?_)
    have hf := bn ev hf
    clear ev
    refine lv_istore_n (lv' := [(2, .int v2), (0, .ref o), (1, .int a1)]) hx hb d_Ma_checkOne_21 rfl hl (by decide) rfl (fun ls hl => ?_)
    refine lv_aload_n hx hb d_Ma_checkOne_22 rfl (lv_at hl 1 rfl) ?_
    refine va_get (D := D) (ci := 6) (v := .ref a_main) (C := "CoinKeeper$Machine") (T := F_6) (N := 19) hx hb hts i_6 hown hK hP 0 rfl rfl 5 (by decide) (hts _ gw_209) (fun _ h9 => h9) rfl d_Ma_checkOne_23 ?_
    refine lv_aload_n hx hb d_Ma_checkOne_26 rfl (lv_at hl 1 rfl) ?_
    refine va_get (D := D) (ci := 6) (v := .int u0) (C := "CoinKeeper$Machine") (T := F_6) (N := 19) hx hb hts i_6 hown hK hP 0 rfl rfl 8 (by decide) (hts _ gw_212) (fun _ h9 => h9) rfl d_Ma_checkOne_27 ?_
    refine lv_iconst (v := 1) hx hb d_Ma_checkOne_30 (by decide) ?_
    refine lv_isub hx hb d_Ma_checkOne_31 ?_
    refine lv_topi (fun v3 ev => ?_)
    have hf := bn ev hf
    clear ev
    obtain ⟨hg, hf⟩ := gdp hf
    refine va_iald hx hb hK hP 1 1 rfl rfl (inb_in hg) d_Ma_checkOne_32 ?_
    refine lv_topi (fun v4 ev => ?_)
    have hf := bn ev hf
    clear ev
    refine lv_istore_n (lv' := [(3, .int v4), (2, .int v2), (0, .ref o), (1, .int a1)]) hx hb d_Ma_checkOne_33 rfl hl (by decide) rfl (fun ls hl => ?_)
    refine lv_aload_n hx hb d_Ma_checkOne_34 rfl (lv_at hl 2 rfl) ?_
    refine lv_dup hx hb d_Ma_checkOne_35 rfl ?_
    refine va_get (D := D) (ci := 6) (v := .int u0) (C := "CoinKeeper$Machine") (T := F_6) (N := 19) hx hb hts i_6 hown hK hP 0 rfl rfl 8 (by decide) (hts _ gw_212) (fun _ h9 => h9) rfl d_Ma_checkOne_36 ?_
    refine lv_iconst (v := 2) hx hb d_Ma_checkOne_39 (by decide) ?_
    refine lv_isub hx hb d_Ma_checkOne_40 ?_
    refine lv_topi (fun v5 ev => ?_)
    have hf := bn ev hf
    clear ev
    refine va_put (D := D) (ci := 6) (v := .int v5) (ty := .int) (C := "CoinKeeper$Machine") (T := F_6) (N := 19) hx hb hts i_6 t_6 t_6_ok n_6 hown hK hP hD hS 0 rfl rfl 8 (by decide) (hts _ gw_212) (fun _ h9 => h9) rfl (by decide +kernel) rfl rfl (Nat.le_of_ble_eq_true rfl) d_Ma_checkOne_41 (fun H locs hP hD hS => ?_)
    have hP : va_P D classes [(o, .inr (6, [v_o_sha, r_signatures, v_o_ripemd, v_a_data, v_a_scriptEnd, .ref a_main, v_a_other, v_a_taken, .int v5, .int i_otherHeight, .int i_ops, .int i_ifs, .int i_ifsNotTaken, .int i_free, r_layout, .int i_tx, .int i_in, r_coin, .int i_messageIsThere])), (a_main, .inl (cy 1, 204, .inl g_main))] H := hP
    have hD : va_D A [(o, .inr (6, [v_o_sha, r_signatures, v_o_ripemd, v_a_data, v_a_scriptEnd, .ref a_main, v_a_other, v_a_taken, .int v5, .int i_otherHeight, .int i_ops, .int i_ifs, .int i_ifsNotTaken, .int i_free, r_layout, .int i_tx, .int i_in, r_coin, .int i_messageIsThere])), (a_main, .inl (cy 1, 204, .inl g_main))] := hD
    refine lv_aload_n hx hb d_Ma_checkOne_44 rfl (lv_at hl 2 rfl) ?_
    exact nomatch hf
  · have hf := ifn cx hf
    refine lv_iconst (v := 0) hx hb d_Ma_checkOne_8 (by decide) ?_
    obtain rfl := Option.some.inj hf
    exact q_rz hx hb hr hlocks hK hP hD hS (isb_n (v := 0) (by decide)) d_Ma_checkOne_9
theorem c_Ma_checkOne (l : Launch) (D : va_G) (cy : Nat → ClassId) (ad : Nat → Nat) (fu : Nat) (o : Nat) (v_o_sha : Value) (r_signatures : Value) (v_o_ripemd : Value) (v_a_data : Value) (v_a_scriptEnd : Value) (v_a_other : Value) (v_a_taken : Value) (r_layout : Value) (r_coin : Value) (a_main : Nat) (i_otherHeight : Int32) (i_ops : Int32) (i_ifs : Int32) (i_ifsNotTaken : Int32) (i_free : Int32) (i_tx : Int32) (i_in : Int32) (i_messageIsThere : Int32) (g_main : Nat → Int32) (a1 : Int32) (u0 : Int32) (res : Int32 × Int32) (hf : x_Ma_checkOne fu i_otherHeight i_ops i_ifs i_ifsNotTaken i_free i_tx i_in i_messageIsThere g_main a1 u0 = some res) (sz : Nat) : Met l ({ cls := "CoinKeeper$Machine", name := "checkOne", desc := "(I)Z" } : Jvm.MethodName) (.code ({ cls := "CoinKeeper$Machine", name := "checkOne", desc := "(I)Z" } : Jvm.MethodName) b_Ma_checkOne 5 (some .boolean) :: gw) rm_Ma_checkOne (va_Pc [.ref o, .int a1] (Pr D cy ad [(o, .inr (6, [v_o_sha, r_signatures, v_o_ripemd, v_a_data, v_a_scriptEnd, .ref a_main, v_a_other, v_a_taken, .int u0, .int i_otherHeight, .int i_ops, .int i_ifs, .int i_ifsNotTaken, .int i_free, r_layout, .int i_tx, .int i_in, r_coin, .int i_messageIsThere])), (a_main, .inl (cy 1, 204, .inl g_main))] sz)) (q_Ma_checkOne D cy (va_A [(o, .inr (6, [v_o_sha, r_signatures, v_o_ripemd, v_a_data, v_a_scriptEnd, .ref a_main, v_a_other, v_a_taken, .int u0, .int i_otherHeight, .int i_ops, .int i_ifs, .int i_ifsNotTaken, .int i_free, r_layout, .int i_tx, .int i_in, r_coin, .int i_messageIsThere])), (a_main, .inl (cy 1, 204, .inl g_main))] sz) o v_o_sha r_signatures v_o_ripemd v_a_data v_a_scriptEnd v_a_other v_a_taken r_layout r_coin a_main i_otherHeight i_ops i_ifs i_ifsNotTaken i_free i_tx i_in i_messageIsThere g_main res) 0 0 (va_A [(o, .inr (6, [v_o_sha, r_signatures, v_o_ripemd, v_a_data, v_a_scriptEnd, .ref a_main, v_a_other, v_a_taken, .int u0, .int i_otherHeight, .int i_ops, .int i_ifs, .int i_ifsNotTaken, .int i_free, r_layout, .int i_tx, .int i_in, r_coin, .int i_messageIsThere])), (a_main, .inl (cy 1, 204, .inl g_main))] sz) :=
  q_met (Qc := fun A => q_Ma_checkOne D cy A o v_o_sha r_signatures v_o_ripemd v_a_data v_a_scriptEnd v_a_other v_a_taken r_layout r_coin a_main i_otherHeight i_ops i_ifs i_ifsNotTaken i_free i_tx i_in i_messageIsThere g_main res) (by decide) rfl rfl (Nat.le_of_ble_eq_true rfl) (fun p e s m below meth c ls F hP hD hS hl => we_Ma_checkOne (fu := fu) F a1 u0 res hf _ _ _ hP hD hS hl) sz
abbrev b_Ma_popLimited : ByteArray := prog_7_method_31_code
theorem d_Ma_popLimited_0 : decode b_Ma_popLimited 0 = .ok (.aload_n 0, 1) := by decide +kernel
theorem d_Ma_popLimited_1 : decode b_Ma_popLimited 1 = .ok (.getfield 73, 3) := by decide +kernel
theorem d_Ma_popLimited_4 : decode b_Ma_popLimited 4 = .ok (.iconst 1, 1) := by decide +kernel
theorem d_Ma_popLimited_5 : decode b_Ma_popLimited 5 = .ok (.if_icmp .lt 21, 3) := by decide +kernel
theorem d_Ma_popLimited_8 : decode b_Ma_popLimited 8 = .ok (.aload_n 0, 1) := by decide +kernel
theorem d_Ma_popLimited_9 : decode b_Ma_popLimited 9 = .ok (.aload_n 0, 1) := by decide +kernel
theorem d_Ma_popLimited_10 : decode b_Ma_popLimited 10 = .ok (.getfield 26, 3) := by decide +kernel
theorem d_Ma_popLimited_13 : decode b_Ma_popLimited 13 = .ok (.aload_n 0, 1) := by decide +kernel
theorem d_Ma_popLimited_14 : decode b_Ma_popLimited 14 = .ok (.getfield 73, 3) := by decide +kernel
theorem d_Ma_popLimited_17 : decode b_Ma_popLimited 17 = .ok (.iconst 1, 1) := by decide +kernel
theorem d_Ma_popLimited_18 : decode b_Ma_popLimited 18 = .ok (.isub, 1) := by decide +kernel
theorem d_Ma_popLimited_19 : decode b_Ma_popLimited 19 = .ok (.iaload, 1) := by decide +kernel
theorem d_Ma_popLimited_20 : decode b_Ma_popLimited 20 = .ok (.invokevirtual 167, 3) := by decide +kernel
theorem d_Ma_popLimited_23 : decode b_Ma_popLimited 23 = .ok (.ifCond .ne 5, 3) := by decide +kernel
theorem d_Ma_popLimited_26 : decode b_Ma_popLimited 26 = .ok (.iconst (-1), 1) := by decide +kernel
theorem d_Ma_popLimited_27 : decode b_Ma_popLimited 27 = .ok (.ireturn, 1) := by decide +kernel
theorem d_Ma_popLimited_28 : decode b_Ma_popLimited 28 = .ok (.aload_n 0, 1) := by decide +kernel
theorem d_Ma_popLimited_29 : decode b_Ma_popLimited 29 = .ok (.dup, 1) := by decide +kernel
theorem d_Ma_popLimited_30 : decode b_Ma_popLimited 30 = .ok (.getfield 73, 3) := by decide +kernel
theorem d_Ma_popLimited_33 : decode b_Ma_popLimited 33 = .ok (.iconst 1, 1) := by decide +kernel
theorem d_Ma_popLimited_34 : decode b_Ma_popLimited 34 = .ok (.isub, 1) := by decide +kernel
theorem d_Ma_popLimited_35 : decode b_Ma_popLimited 35 = .ok (.putfield 73, 3) := by decide +kernel
theorem d_Ma_popLimited_38 : decode b_Ma_popLimited 38 = .ok (.aload_n 0, 1) := by decide +kernel
theorem d_Ma_popLimited_39 : decode b_Ma_popLimited 39 = .ok (.aload_n 0, 1) := by decide +kernel
theorem d_Ma_popLimited_40 : decode b_Ma_popLimited 40 = .ok (.getfield 26, 3) := by decide +kernel
theorem d_Ma_popLimited_43 : decode b_Ma_popLimited 43 = .ok (.aload_n 0, 1) := by decide +kernel
theorem d_Ma_popLimited_44 : decode b_Ma_popLimited 44 = .ok (.getfield 73, 3) := by decide +kernel
theorem d_Ma_popLimited_47 : decode b_Ma_popLimited 47 = .ok (.iaload, 1) := by decide +kernel
theorem d_Ma_popLimited_48 : decode b_Ma_popLimited 48 = .ok (.invokevirtual 170, 3) := by decide +kernel
theorem d_Ma_popLimited_51 : decode b_Ma_popLimited 51 = .ok (.lstore_n 2, 1) := by decide +kernel
theorem d_Ma_popLimited_52 : decode b_Ma_popLimited 52 = .ok (.lload_n 2, 1) := by decide +kernel
theorem d_Ma_popLimited_53 : decode b_Ma_popLimited 53 = .ok (.lconst 0, 1) := by decide +kernel
theorem d_Ma_popLimited_54 : decode b_Ma_popLimited 54 = .ok (.lcmp, 1) := by decide +kernel
theorem d_Ma_popLimited_55 : decode b_Ma_popLimited 55 = .ok (.ifCond .lt 10, 3) := by decide +kernel
theorem d_Ma_popLimited_58 : decode b_Ma_popLimited 58 = .ok (.lload_n 2, 1) := by decide +kernel
theorem d_Ma_popLimited_59 : decode b_Ma_popLimited 59 = .ok (.iload_n 1, 1) := by decide +kernel
theorem d_Ma_popLimited_60 : decode b_Ma_popLimited 60 = .ok (.i2l, 1) := by decide +kernel
theorem d_Ma_popLimited_61 : decode b_Ma_popLimited 61 = .ok (.lcmp, 1) := by decide +kernel
theorem d_Ma_popLimited_62 : decode b_Ma_popLimited 62 = .ok (.ifCond .le 7, 3) := by decide +kernel
theorem d_Ma_popLimited_65 : decode b_Ma_popLimited 65 = .ok (.iconst (-1), 1) := by decide +kernel
theorem d_Ma_popLimited_66 : decode b_Ma_popLimited 66 = .ok (.goto 5, 3) := by decide +kernel
theorem d_Ma_popLimited_69 : decode b_Ma_popLimited 69 = .ok (.lload_n 2, 1) := by decide +kernel
theorem d_Ma_popLimited_70 : decode b_Ma_popLimited 70 = .ok (.l2i, 1) := by decide +kernel
theorem d_Ma_popLimited_71 : decode b_Ma_popLimited 71 = .ok (.ireturn, 1) := by decide +kernel
abbrev rm_Ma_popLimited : Room := { frames := 2, cells := 0, slots := 0, locals := 46 }
abbrev q_Ma_popLimited (D : va_G) (cy : Nat → ClassId) (A : Nat → Prop) (o : Nat) (v_o_sha : Value) (r_signatures : Value) (v_o_ripemd : Value) (v_a_scriptEnd : Value) (v_a_other : Value) (v_a_taken : Value) (r_layout : Value) (r_coin : Value) (a_data : Nat) (a_main : Nat) (i_otherHeight : Int32) (i_ops : Int32) (i_ifs : Int32) (i_ifsNotTaken : Int32) (i_free : Int32) (i_tx : Int32) (i_in : Int32) (i_messageIsThere : Int32) (g_data : Nat → Int32) (g_main : Nat → Int32) (res : Int32 × Int32) : Array Value → State → Outcome → State → Prop := va_Qi (fun r' (_ : Unit) => r' = res.1) (fun _ t => Po D cy A [(o, .inr (6, [v_o_sha, r_signatures, v_o_ripemd, .ref a_data, v_a_scriptEnd, .ref a_main, v_a_other, v_a_taken, .int res.2, .int i_otherHeight, .int i_ops, .int i_ifs, .int i_ifsNotTaken, .int i_free, r_layout, .int i_tx, .int i_in, r_coin, .int i_messageIsThere])), (a_data, .inl (cy 0, 14928, .inl g_data)), (a_main, .inl (cy 1, 204, .inl g_main))] t) A
def I_Ma_popLimited_65 (p : Program) (l : Launch) (e : Env) (s : State) (m : MethodId) (args : Array Value) (below : List Frame) (meth : Method) (c : Code) (D : va_G) (cy : Nat → ClassId) (A : Nat → Prop) (ad : Nat → Nat) (o : Nat) (v_o_sha : Value) (r_signatures : Value) (v_o_ripemd : Value) (v_a_scriptEnd : Value) (v_a_other : Value) (v_a_taken : Value) (r_layout : Value) (r_coin : Value) (a_data : Nat) (a_main : Nat) (i_otherHeight : Int32) (i_ops : Int32) (i_ifs : Int32) (i_ifsNotTaken : Int32) (i_free : Int32) (i_tx : Int32) (i_in : Int32) (i_messageIsThere : Int32) (g_data : Nat → Int32) (g_main : Nat → Int32) (k : Int32 → Option (Int32 × Int32)) : Prop :=
  ∀ (u0 : Int32) (res : Int32 × Int32), k u0 = some res → ∀ (H : Heap) (locs : List Loc) (ls : Array Slot), va_P D classes [(o, .inr (6, [v_o_sha, r_signatures, v_o_ripemd, .ref a_data, v_a_scriptEnd, .ref a_main, v_a_other, v_a_taken, .int u0, .int i_otherHeight, .int i_ops, .int i_ifs, .int i_ifsNotTaken, .int i_free, r_layout, .int i_tx, .int i_in, r_coin, .int i_messageIsThere])), (a_data, .inl (cy 0, 14928, .inl g_data)), (a_main, .inl (cy 1, 204, .inl g_main))] H → va_D A [(o, .inr (6, [v_o_sha, r_signatures, v_o_ripemd, .ref a_data, v_a_scriptEnd, .ref a_main, v_a_other, v_a_taken, .int u0, .int i_otherHeight, .int i_ops, .int i_ifs, .int i_ifsNotTaken, .int i_free, r_layout, .int i_tx, .int i_in, r_coin, .int i_messageIsThere])), (a_data, .inl (cy 0, 14928, .inl g_data)), (a_main, .inl (cy 1, 204, .inl g_main))] → va_S A s.heap H locs → lv_has ls 4 [] → W p l e rm_Ma_popLimited s m args below meth c H locs 0 0 (MQ below (q_Ma_popLimited D cy A o v_o_sha r_signatures v_o_ripemd v_a_scriptEnd v_a_other v_a_taken r_layout r_coin a_data a_main i_otherHeight i_ops i_ifs i_ifsNotTaken i_free i_tx i_in i_messageIsThere g_data g_main res) args s 0 0 A) (F0 m 65 ls [])
def I_Ma_popLimited_e (p : Program) (l : Launch) (e : Env) (s : State) (m : MethodId) (args : Array Value) (below : List Frame) (meth : Method) (c : Code) (D : va_G) (cy : Nat → ClassId) (A : Nat → Prop) (ad : Nat → Nat) (o : Nat) (v_o_sha : Value) (r_signatures : Value) (v_o_ripemd : Value) (v_a_scriptEnd : Value) (v_a_other : Value) (v_a_taken : Value) (r_layout : Value) (r_coin : Value) (a_data : Nat) (a_main : Nat) (i_otherHeight : Int32) (i_ops : Int32) (i_ifs : Int32) (i_ifsNotTaken : Int32) (i_free : Int32) (i_tx : Int32) (i_in : Int32) (i_messageIsThere : Int32) (g_data : Nat → Int32) (g_main : Nat → Int32) (k : Int32 → Int32 → Option (Int32 × Int32)) : Prop :=
  ∀ (a1 : Int32) (u0 : Int32) (res : Int32 × Int32), k a1 u0 = some res → ∀ (H : Heap) (locs : List Loc) (ls : Array Slot), va_P D classes [(o, .inr (6, [v_o_sha, r_signatures, v_o_ripemd, .ref a_data, v_a_scriptEnd, .ref a_main, v_a_other, v_a_taken, .int u0, .int i_otherHeight, .int i_ops, .int i_ifs, .int i_ifsNotTaken, .int i_free, r_layout, .int i_tx, .int i_in, r_coin, .int i_messageIsThere])), (a_data, .inl (cy 0, 14928, .inl g_data)), (a_main, .inl (cy 1, 204, .inl g_main))] H → va_D A [(o, .inr (6, [v_o_sha, r_signatures, v_o_ripemd, .ref a_data, v_a_scriptEnd, .ref a_main, v_a_other, v_a_taken, .int u0, .int i_otherHeight, .int i_ops, .int i_ifs, .int i_ifsNotTaken, .int i_free, r_layout, .int i_tx, .int i_in, r_coin, .int i_messageIsThere])), (a_data, .inl (cy 0, 14928, .inl g_data)), (a_main, .inl (cy 1, 204, .inl g_main))] → va_S A s.heap H locs → lv_has ls 4 [(0, .ref o), (1, .int a1)] → W p l e rm_Ma_popLimited s m args below meth c H locs 0 0 (MQ below (q_Ma_popLimited D cy A o v_o_sha r_signatures v_o_ripemd v_a_scriptEnd v_a_other v_a_taken r_layout r_coin a_data a_main i_otherHeight i_ops i_ifs i_ifsNotTaken i_free i_tx i_in i_messageIsThere g_data g_main res) args s 0 0 A) (F0 m 0 ls [])
set_option maxHeartbeats 8000000 in
set_option maxRecDepth 100000 in
theorem wb_Ma_popLimited_65 {p : Program} {l : Launch} {e : Env} {s : State} {m : MethodId} {args : Array Value} {below : List Frame} {meth : Method} {c : Code} {D : va_G} {cy : Nat → ClassId} {A : Nat → Prop} {ad : Nat → Nat} {o : Nat} {v_o_sha : Value} {r_signatures : Value} {v_o_ripemd : Value} {v_a_scriptEnd : Value} {v_a_other : Value} {v_a_taken : Value} {r_layout : Value} {r_coin : Value} {a_data : Nat} {a_main : Nat} {i_otherHeight : Int32} {i_ops : Int32} {i_ifs : Int32} {i_ifsNotTaken : Int32} {i_free : Int32} {i_tx : Int32} {i_in : Int32} {i_messageIsThere : Int32} {g_data : Nat → Int32} {g_main : Nat → Int32} {fu : Nat} (F : Fx p s m args meth c b_Ma_popLimited 4 "CoinKeeper$Machine" "popLimited" (some .int) D cy ad A) : I_Ma_popLimited_65 p l e s m args below meth c D cy A ad o v_o_sha r_signatures v_o_ripemd v_a_scriptEnd v_a_other v_a_taken r_layout r_coin a_data a_main i_otherHeight i_ops i_ifs i_ifsNotTaken i_free i_tx i_in i_messageIsThere g_data g_main (xb_Ma_popLimited_65 fu i_otherHeight i_ops i_ifs i_ifsNotTaken i_free i_tx i_in i_messageIsThere g_data g_main) := by
  obtain ⟨hx, hb, hr, hml, hown, hts, hlocks, hK, hA, hSt, hnm, hex⟩ := id F
  intro u0 res hf H locs ls hP hD hS hl
  unfold xb_Ma_popLimited_65 at hf
  refine lv_iconst (v := (-1)) hx hb d_Ma_popLimited_65 (by decide) ?_
  refine lv_goto (tgt := 71) hx hb d_Ma_popLimited_66 (by decide) ?_
  obtain rfl := Option.some.inj hf
  exact q_ri hx hb hr hlocks hK hP hD hS d_Ma_popLimited_71
set_option maxHeartbeats 8000000 in
set_option maxRecDepth 100000 in
theorem we_Ma_popLimited {p : Program} {l : Launch} {e : Env} {s : State} {m : MethodId} {args : Array Value} {below : List Frame} {meth : Method} {c : Code} {D : va_G} {cy : Nat → ClassId} {A : Nat → Prop} {ad : Nat → Nat} {o : Nat} {v_o_sha : Value} {r_signatures : Value} {v_o_ripemd : Value} {v_a_scriptEnd : Value} {v_a_other : Value} {v_a_taken : Value} {r_layout : Value} {r_coin : Value} {a_data : Nat} {a_main : Nat} {i_otherHeight : Int32} {i_ops : Int32} {i_ifs : Int32} {i_ifsNotTaken : Int32} {i_free : Int32} {i_tx : Int32} {i_in : Int32} {i_messageIsThere : Int32} {g_data : Nat → Int32} {g_main : Nat → Int32} {fu : Nat} (F : Fx p s m args meth c b_Ma_popLimited 4 "CoinKeeper$Machine" "popLimited" (some .int) D cy ad A) : I_Ma_popLimited_e p l e s m args below meth c D cy A ad o v_o_sha r_signatures v_o_ripemd v_a_scriptEnd v_a_other v_a_taken r_layout r_coin a_data a_main i_otherHeight i_ops i_ifs i_ifsNotTaken i_free i_tx i_in i_messageIsThere g_data g_main (x_Ma_popLimited fu i_otherHeight i_ops i_ifs i_ifsNotTaken i_free i_tx i_in i_messageIsThere g_data g_main) := by
  obtain ⟨hx, hb, hr, hml, hown, hts, hlocks, hK, hA, hSt, hnm, hex⟩ := id F
  intro a1 u0 res hf H locs ls hP hD hS hl
  unfold x_Ma_popLimited at hf
  refine lv_aload_n hx hb d_Ma_popLimited_0 rfl (lv_at hl 0 rfl) ?_
  refine va_get (D := D) (ci := 6) (v := .int u0) (C := "CoinKeeper$Machine") (T := F_6) (N := 19) hx hb hts i_6 hown hK hP 0 rfl rfl 8 (by decide) (hts _ gw_212) (fun _ h9 => h9) rfl d_Ma_popLimited_1 ?_
  refine lv_iconst (v := 1) hx hb d_Ma_popLimited_4 (by decide) ?_
  refine lv_icmp_lt (tgt := 26) hx hb d_Ma_popLimited_5 (by decide) (fun cx => ?_) (fun cx => ?_)
  · have hf := ifp cx hf
    refine lv_iconst (v := (-1)) hx hb d_Ma_popLimited_26 (by decide) ?_
    obtain rfl := Option.some.inj hf
    exact q_ri hx hb hr hlocks hK hP hD hS d_Ma_popLimited_27
  · have hf := ifn cx hf
    refine lv_aload_n hx hb d_Ma_popLimited_8 rfl (lv_at hl 0 rfl) ?_
    refine lv_aload_n hx hb d_Ma_popLimited_9 rfl (lv_at hl 0 rfl) ?_
    refine va_get (D := D) (ci := 6) (v := .ref a_main) (C := "CoinKeeper$Machine") (T := F_6) (N := 19) hx hb hts i_6 hown hK hP 0 rfl rfl 5 (by decide) (hts _ gw_209) (fun _ h9 => h9) rfl d_Ma_popLimited_10 ?_
    refine lv_aload_n hx hb d_Ma_popLimited_13 rfl (lv_at hl 0 rfl) ?_
    refine va_get (D := D) (ci := 6) (v := .int u0) (C := "CoinKeeper$Machine") (T := F_6) (N := 19) hx hb hts i_6 hown hK hP 0 rfl rfl 8 (by decide) (hts _ gw_212) (fun _ h9 => h9) rfl d_Ma_popLimited_14 ?_
    refine lv_iconst (v := 1) hx hb d_Ma_popLimited_17 (by decide) ?_
    refine lv_isub hx hb d_Ma_popLimited_18 ?_
    refine lv_topi (fun v1 ev => ?_)
    have hf := bn ev hf
    clear ev
    obtain ⟨hg, hf⟩ := gdp hf
    refine va_iald hx hb hK hP 2 1 rfl rfl (inb_in hg) d_Ma_popLimited_19 ?_
    refine lv_topi (fun v2 ev => ?_)
    have hf := bn ev hf
    clear ev
    obtain ⟨v3, hc, hf⟩ := bdp1 hf
    refine q_ai (wr := [(a_data, .inl (cy 0, 14928, .inl g_data)), (a_main, .inl (cy 1, 204, .inl g_main))]) (va_runV (C := "CoinKeeper$Machine") (As := [.int v2]) (rest := []) ⟨hx, hb, hml, hown, hts⟩ (c_Ma_isNumber l D cy ad fu o v_o_sha r_signatures v_o_ripemd (.ref a_data) v_a_scriptEnd (.ref a_main) v_a_other v_a_taken r_layout r_coin u0 i_otherHeight i_ops i_ifs i_ifsNotTaken i_free i_tx i_in i_messageIsThere v2 _ hc H.size) ⟨q_cB hts gw_1014 gw_6 gw_1011 hdc_44 ⟨by decide, by decide⟩, hts _ gw_1013, hts _ gs_33⟩ (q_preV (q_pre (hP.sub [0] rfl) (hD.sub [0] (by decide) rfl) hK hSt hS (va_free hD hS hA [0] rfl) _) (va_recv hK (hP.sub [0] rfl) (ci := 6) (q0 := 0) rfl rfl)) rfl rfl hl.1 rfl (lv_room (Nat.le_of_ble_eq_true rfl)) d_Ma_popLimited_20 ⟨Nat.le_of_ble_eq_true rfl, Nat.le_of_ble_eq_true rfl⟩) hP hD hS hA [0] [1, 2] rfl rfl (by decide) (by decide) (fun H locs hP hD hS => ?_)
    clear hc
    have hP : va_P D classes [(a_data, .inl (cy 0, 14928, .inl g_data)), (a_main, .inl (cy 1, 204, .inl g_main)), (o, .inr (6, [v_o_sha, r_signatures, v_o_ripemd, .ref a_data, v_a_scriptEnd, .ref a_main, v_a_other, v_a_taken, .int u0, .int i_otherHeight, .int i_ops, .int i_ifs, .int i_ifsNotTaken, .int i_free, r_layout, .int i_tx, .int i_in, r_coin, .int i_messageIsThere]))] H := hP
    have hD : va_D A [(a_data, .inl (cy 0, 14928, .inl g_data)), (a_main, .inl (cy 1, 204, .inl g_main)), (o, .inr (6, [v_o_sha, r_signatures, v_o_ripemd, .ref a_data, v_a_scriptEnd, .ref a_main, v_a_other, v_a_taken, .int u0, .int i_otherHeight, .int i_ops, .int i_ifs, .int i_ifsNotTaken, .int i_free, r_layout, .int i_tx, .int i_in, r_coin, .int i_messageIsThere]))] := hD
    refine lv_if_ne (tgt := 28) hx hb d_Ma_popLimited_23 (by decide) (fun cx => ?_) (fun cx => ?_)
    · have hf := ifn cx hf
      refine lv_aload_n hx hb d_Ma_popLimited_28 rfl (lv_at hl 0 rfl) ?_
      refine lv_dup hx hb d_Ma_popLimited_29 rfl ?_
      refine va_get (D := D) (ci := 6) (v := .int u0) (C := "CoinKeeper$Machine") (T := F_6) (N := 19) hx hb hts i_6 hown hK hP 2 rfl rfl 8 (by decide) (hts _ gw_212) (fun _ h9 => h9) rfl d_Ma_popLimited_30 ?_
      refine lv_iconst (v := 1) hx hb d_Ma_popLimited_33 (by decide) ?_
      refine lv_isub hx hb d_Ma_popLimited_34 ?_
      refine lv_topi (fun v4 ev => ?_)
      have hf := bn ev hf
      clear ev
      refine va_put (D := D) (ci := 6) (v := .int v4) (ty := .int) (C := "CoinKeeper$Machine") (T := F_6) (N := 19) hx hb hts i_6 t_6 t_6_ok n_6 hown hK hP hD hS 2 rfl rfl 8 (by decide) (hts _ gw_212) (fun _ h9 => h9) rfl (by decide +kernel) rfl rfl (Nat.le_of_ble_eq_true rfl) d_Ma_popLimited_35 (fun H locs hP hD hS => ?_)
      have hP : va_P D classes [(a_data, .inl (cy 0, 14928, .inl g_data)), (a_main, .inl (cy 1, 204, .inl g_main)), (o, .inr (6, [v_o_sha, r_signatures, v_o_ripemd, .ref a_data, v_a_scriptEnd, .ref a_main, v_a_other, v_a_taken, .int v4, .int i_otherHeight, .int i_ops, .int i_ifs, .int i_ifsNotTaken, .int i_free, r_layout, .int i_tx, .int i_in, r_coin, .int i_messageIsThere]))] H := hP
      have hD : va_D A [(a_data, .inl (cy 0, 14928, .inl g_data)), (a_main, .inl (cy 1, 204, .inl g_main)), (o, .inr (6, [v_o_sha, r_signatures, v_o_ripemd, .ref a_data, v_a_scriptEnd, .ref a_main, v_a_other, v_a_taken, .int v4, .int i_otherHeight, .int i_ops, .int i_ifs, .int i_ifsNotTaken, .int i_free, r_layout, .int i_tx, .int i_in, r_coin, .int i_messageIsThere]))] := hD
      refine lv_aload_n hx hb d_Ma_popLimited_38 rfl (lv_at hl 0 rfl) ?_
      refine lv_aload_n hx hb d_Ma_popLimited_39 rfl (lv_at hl 0 rfl) ?_
      refine va_get (D := D) (ci := 6) (v := .ref a_main) (C := "CoinKeeper$Machine") (T := F_6) (N := 19) hx hb hts i_6 hown hK hP 2 rfl rfl 5 (by decide) (hts _ gw_209) (fun _ h9 => h9) rfl d_Ma_popLimited_40 ?_
      refine lv_aload_n hx hb d_Ma_popLimited_43 rfl (lv_at hl 0 rfl) ?_
      refine va_get (D := D) (ci := 6) (v := .int v4) (C := "CoinKeeper$Machine") (T := F_6) (N := 19) hx hb hts i_6 hown hK hP 2 rfl rfl 8 (by decide) (hts _ gw_212) (fun _ h9 => h9) rfl d_Ma_popLimited_44 ?_
      obtain ⟨hg, hf⟩ := gdp hf
      refine va_iald hx hb hK hP 1 1 rfl rfl (inb_in hg) d_Ma_popLimited_47 ?_
      refine lv_topi (fun v5 ev => ?_)
      have hf := bn ev hf
      clear ev
      obtain ⟨v6, hc, hf⟩ := bdp1 hf
      refine q_al (wr := [(a_main, .inl (cy 1, 204, .inl g_main))]) (va_runV (C := "CoinKeeper$Machine") (As := [.int v5]) (rest := []) ⟨hx, hb, hml, hown, hts⟩ (c_Ma_numberOf l D cy ad fu o v_o_sha r_signatures v_o_ripemd v_a_scriptEnd (.ref a_main) v_a_other v_a_taken r_layout r_coin a_data v4 i_otherHeight i_ops i_ifs i_ifsNotTaken i_free i_tx i_in i_messageIsThere g_data v5 _ hc H.size) ⟨q_cB hts gw_1018 gw_6 gw_1015 hdc_45 ⟨by decide, by decide⟩, hts _ gw_1017, hts _ gs_34⟩ (q_preV (q_pre (hP.sub [2, 0] rfl) (hD.sub [2, 0] (by decide) rfl) hK hSt hS (va_free hD hS hA [2, 0] rfl) _) (va_recv hK (hP.sub [2, 0] rfl) (ci := 6) (q0 := 0) rfl rfl)) rfl rfl hl.1 rfl (lv_room (Nat.le_of_ble_eq_true rfl)) d_Ma_popLimited_48 ⟨Nat.le_of_ble_eq_true rfl, Nat.le_of_ble_eq_true rfl⟩) hP hD hS hA [2, 0] [1] rfl rfl (by decide) (by decide) (fun H locs hP hD hS => ?_)
      clear hc
      have hP : va_P D classes [(a_main, .inl (cy 1, 204, .inl g_main)), (o, .inr (6, [v_o_sha, r_signatures, v_o_ripemd, .ref a_data, v_a_scriptEnd, .ref a_main, v_a_other, v_a_taken, .int v4, .int i_otherHeight, .int i_ops, .int i_ifs, .int i_ifsNotTaken, .int i_free, r_layout, .int i_tx, .int i_in, r_coin, .int i_messageIsThere])), (a_data, .inl (cy 0, 14928, .inl g_data))] H := hP
      have hD : va_D A [(a_main, .inl (cy 1, 204, .inl g_main)), (o, .inr (6, [v_o_sha, r_signatures, v_o_ripemd, .ref a_data, v_a_scriptEnd, .ref a_main, v_a_other, v_a_taken, .int v4, .int i_otherHeight, .int i_ops, .int i_ifs, .int i_ifsNotTaken, .int i_free, r_layout, .int i_tx, .int i_in, r_coin, .int i_messageIsThere])), (a_data, .inl (cy 0, 14928, .inl g_data))] := hD
      refine lv_lstore_n (lv' := [(2, .long v6), (0, .ref o), (1, .int a1)]) hx hb d_Ma_popLimited_51 rfl hl (by decide) rfl (fun ls hl => ?_)
      refine lv_lload_n hx hb d_Ma_popLimited_52 rfl (lv_at hl 0 rfl) ?_
      refine lv_lconst (v := 0) hx hb d_Ma_popLimited_53 (by decide) ?_
      refine W.lcmp hx hb d_Ma_popLimited_54 ?_
      refine lv_if_lt (tgt := 65) hx hb d_Ma_popLimited_55 (by decide) (fun cx => ?_) (fun cx => ?_)
      · have hf := ifp cx hf
        exact wb_Ma_popLimited_65 (fu := fu) F _ _ hf _ _ _ (hP.sub (ws' := [(o, .inr (6, [v_o_sha, r_signatures, v_o_ripemd, .ref a_data, v_a_scriptEnd, .ref a_main, v_a_other, v_a_taken, .int v4, .int i_otherHeight, .int i_ops, .int i_ifs, .int i_ifsNotTaken, .int i_free, r_layout, .int i_tx, .int i_in, r_coin, .int i_messageIsThere])), (a_data, .inl (cy 0, 14928, .inl g_data)), (a_main, .inl (cy 1, 204, .inl g_main))]) [1, 2, 0] rfl) (hD.sub (ws' := [(o, .inr (6, [v_o_sha, r_signatures, v_o_ripemd, .ref a_data, v_a_scriptEnd, .ref a_main, v_a_other, v_a_taken, .int v4, .int i_otherHeight, .int i_ops, .int i_ifs, .int i_ifsNotTaken, .int i_free, r_layout, .int i_tx, .int i_in, r_coin, .int i_messageIsThere])), (a_data, .inl (cy 0, 14928, .inl g_data)), (a_main, .inl (cy 1, 204, .inl g_main))]) [1, 2, 0] (by decide) rfl) hS (lv_sub hl [] rfl)
      · have hf := ifn cx hf
        refine lv_lload_n hx hb d_Ma_popLimited_58 rfl (lv_at hl 0 rfl) ?_
        refine lv_iload_n hx hb d_Ma_popLimited_59 rfl (lv_at hl 2 rfl) ?_
        refine lv_i2l hx hb d_Ma_popLimited_60 rfl ?_
        refine W.lcmp hx hb d_Ma_popLimited_61 ?_
        refine lv_if_le (tgt := 69) hx hb d_Ma_popLimited_62 (by decide) (fun cx => ?_) (fun cx => ?_)
        · have hf := ifp cx hf
          refine lv_lload_n hx hb d_Ma_popLimited_69 rfl (lv_at hl 0 rfl) ?_
          refine lv_l2i hx hb d_Ma_popLimited_70 rfl ?_
          refine lv_topi (fun v7 ev => ?_)
          have hf := bn ev hf
          clear ev
          obtain rfl := Option.some.inj hf
          exact q_ri hx hb hr hlocks hK (hP.sub [1, 2, 0] rfl) (hD.sub [1, 2, 0] (by decide) rfl) hS d_Ma_popLimited_71
        · have hf := ifn cx hf
          exact wb_Ma_popLimited_65 (fu := fu) F _ _ hf _ _ _ (hP.sub (ws' := [(o, .inr (6, [v_o_sha, r_signatures, v_o_ripemd, .ref a_data, v_a_scriptEnd, .ref a_main, v_a_other, v_a_taken, .int v4, .int i_otherHeight, .int i_ops, .int i_ifs, .int i_ifsNotTaken, .int i_free, r_layout, .int i_tx, .int i_in, r_coin, .int i_messageIsThere])), (a_data, .inl (cy 0, 14928, .inl g_data)), (a_main, .inl (cy 1, 204, .inl g_main))]) [1, 2, 0] rfl) (hD.sub (ws' := [(o, .inr (6, [v_o_sha, r_signatures, v_o_ripemd, .ref a_data, v_a_scriptEnd, .ref a_main, v_a_other, v_a_taken, .int v4, .int i_otherHeight, .int i_ops, .int i_ifs, .int i_ifsNotTaken, .int i_free, r_layout, .int i_tx, .int i_in, r_coin, .int i_messageIsThere])), (a_data, .inl (cy 0, 14928, .inl g_data)), (a_main, .inl (cy 1, 204, .inl g_main))]) [1, 2, 0] (by decide) rfl) hS (lv_sub hl [] rfl)
    · have hf := ifp cx hf
      refine lv_iconst (v := (-1)) hx hb d_Ma_popLimited_26 (by decide) ?_
      obtain rfl := Option.some.inj hf
      exact q_ri hx hb hr hlocks hK (hP.sub [2, 0, 1] rfl) (hD.sub [2, 0, 1] (by decide) rfl) hS d_Ma_popLimited_27
theorem c_Ma_popLimited (l : Launch) (D : va_G) (cy : Nat → ClassId) (ad : Nat → Nat) (fu : Nat) (o : Nat) (v_o_sha : Value) (r_signatures : Value) (v_o_ripemd : Value) (v_a_scriptEnd : Value) (v_a_other : Value) (v_a_taken : Value) (r_layout : Value) (r_coin : Value) (a_data : Nat) (a_main : Nat) (i_otherHeight : Int32) (i_ops : Int32) (i_ifs : Int32) (i_ifsNotTaken : Int32) (i_free : Int32) (i_tx : Int32) (i_in : Int32) (i_messageIsThere : Int32) (g_data : Nat → Int32) (g_main : Nat → Int32) (a1 : Int32) (u0 : Int32) (res : Int32 × Int32) (hf : x_Ma_popLimited fu i_otherHeight i_ops i_ifs i_ifsNotTaken i_free i_tx i_in i_messageIsThere g_data g_main a1 u0 = some res) (sz : Nat) : Met l ({ cls := "CoinKeeper$Machine", name := "popLimited", desc := "(I)I" } : Jvm.MethodName) (.code ({ cls := "CoinKeeper$Machine", name := "popLimited", desc := "(I)I" } : Jvm.MethodName) b_Ma_popLimited 4 (some .int) :: gw) rm_Ma_popLimited (va_Pc [.ref o, .int a1] (Pr D cy ad [(o, .inr (6, [v_o_sha, r_signatures, v_o_ripemd, .ref a_data, v_a_scriptEnd, .ref a_main, v_a_other, v_a_taken, .int u0, .int i_otherHeight, .int i_ops, .int i_ifs, .int i_ifsNotTaken, .int i_free, r_layout, .int i_tx, .int i_in, r_coin, .int i_messageIsThere])), (a_data, .inl (cy 0, 14928, .inl g_data)), (a_main, .inl (cy 1, 204, .inl g_main))] sz)) (q_Ma_popLimited D cy (va_A [(o, .inr (6, [v_o_sha, r_signatures, v_o_ripemd, .ref a_data, v_a_scriptEnd, .ref a_main, v_a_other, v_a_taken, .int u0, .int i_otherHeight, .int i_ops, .int i_ifs, .int i_ifsNotTaken, .int i_free, r_layout, .int i_tx, .int i_in, r_coin, .int i_messageIsThere])), (a_data, .inl (cy 0, 14928, .inl g_data)), (a_main, .inl (cy 1, 204, .inl g_main))] sz) o v_o_sha r_signatures v_o_ripemd v_a_scriptEnd v_a_other v_a_taken r_layout r_coin a_data a_main i_otherHeight i_ops i_ifs i_ifsNotTaken i_free i_tx i_in i_messageIsThere g_data g_main res) 0 0 (va_A [(o, .inr (6, [v_o_sha, r_signatures, v_o_ripemd, .ref a_data, v_a_scriptEnd, .ref a_main, v_a_other, v_a_taken, .int u0, .int i_otherHeight, .int i_ops, .int i_ifs, .int i_ifsNotTaken, .int i_free, r_layout, .int i_tx, .int i_in, r_coin, .int i_messageIsThere])), (a_data, .inl (cy 0, 14928, .inl g_data)), (a_main, .inl (cy 1, 204, .inl g_main))] sz) :=
  q_met (Qc := fun A => q_Ma_popLimited D cy A o v_o_sha r_signatures v_o_ripemd v_a_scriptEnd v_a_other v_a_taken r_layout r_coin a_data a_main i_otherHeight i_ops i_ifs i_ifsNotTaken i_free i_tx i_in i_messageIsThere g_data g_main res) (by decide) rfl rfl (Nat.le_of_ble_eq_true rfl) (fun p e s m below meth c ls F hP hD hS hl => we_Ma_popLimited (fu := fu) F a1 u0 res hf _ _ _ hP hD hS hl) sz
abbrev b_Ma_checkMany : ByteArray := prog_7_method_30_code
theorem d_Ma_checkMany_0 : decode b_Ma_checkMany 0 = .ok (.aload_n 0, 1) := by decide +kernel
theorem d_Ma_checkMany_1 : decode b_Ma_checkMany 1 = .ok (.bipush 20, 2) := by decide +kernel
theorem d_Ma_checkMany_3 : decode b_Ma_checkMany 3 = .ok (.invokevirtual 205, 3) := by decide +kernel
theorem d_Ma_checkMany_6 : decode b_Ma_checkMany 6 = .ok (.istore_n 2, 1) := by decide +kernel
theorem d_Ma_checkMany_7 : decode b_Ma_checkMany 7 = .ok (.aload_n 0, 1) := by decide +kernel
theorem d_Ma_checkMany_8 : decode b_Ma_checkMany 8 = .ok (.dup, 1) := by decide +kernel
theorem d_Ma_checkMany_9 : decode b_Ma_checkMany 9 = .ok (.getfield 86, 3) := by decide +kernel
theorem d_Ma_checkMany_12 : decode b_Ma_checkMany 12 = .ok (.iload_n 2, 1) := by decide +kernel
theorem d_Ma_checkMany_13 : decode b_Ma_checkMany 13 = .ok (.iconst 0, 1) := by decide +kernel
theorem d_Ma_checkMany_14 : decode b_Ma_checkMany 14 = .ok (.invokestatic 208, 3) := by decide +kernel
theorem d_Ma_checkMany_17 : decode b_Ma_checkMany 17 = .ok (.iadd, 1) := by decide +kernel
theorem d_Ma_checkMany_18 : decode b_Ma_checkMany 18 = .ok (.putfield 86, 3) := by decide +kernel
theorem d_Ma_checkMany_21 : decode b_Ma_checkMany 21 = .ok (.iload_n 2, 1) := by decide +kernel
theorem d_Ma_checkMany_22 : decode b_Ma_checkMany 22 = .ok (.ifCond .lt 21, 3) := by decide +kernel
theorem d_Ma_checkMany_25 : decode b_Ma_checkMany 25 = .ok (.aload_n 0, 1) := by decide +kernel
theorem d_Ma_checkMany_26 : decode b_Ma_checkMany 26 = .ok (.getfield 86, 3) := by decide +kernel
theorem d_Ma_checkMany_29 : decode b_Ma_checkMany 29 = .ok (.sipush 201, 3) := by decide +kernel
theorem d_Ma_checkMany_32 : decode b_Ma_checkMany 32 = .ok (.if_icmp .gt 11, 3) := by decide +kernel
theorem d_Ma_checkMany_35 : decode b_Ma_checkMany 35 = .ok (.aload_n 0, 1) := by decide +kernel
theorem d_Ma_checkMany_36 : decode b_Ma_checkMany 36 = .ok (.getfield 73, 3) := by decide +kernel
theorem d_Ma_checkMany_39 : decode b_Ma_checkMany 39 = .ok (.iload_n 2, 1) := by decide +kernel
theorem d_Ma_checkMany_40 : decode b_Ma_checkMany 40 = .ok (.if_icmp .ge 5, 3) := by decide +kernel
theorem d_Ma_checkMany_43 : decode b_Ma_checkMany 43 = .ok (.iconst 0, 1) := by decide +kernel
theorem d_Ma_checkMany_44 : decode b_Ma_checkMany 44 = .ok (.ireturn, 1) := by decide +kernel
theorem d_Ma_checkMany_45 : decode b_Ma_checkMany 45 = .ok (.aload_n 0, 1) := by decide +kernel
theorem d_Ma_checkMany_46 : decode b_Ma_checkMany 46 = .ok (.dup, 1) := by decide +kernel
theorem d_Ma_checkMany_47 : decode b_Ma_checkMany 47 = .ok (.getfield 73, 3) := by decide +kernel
theorem d_Ma_checkMany_50 : decode b_Ma_checkMany 50 = .ok (.iload_n 2, 1) := by decide +kernel
theorem d_Ma_checkMany_51 : decode b_Ma_checkMany 51 = .ok (.isub, 1) := by decide +kernel
theorem d_Ma_checkMany_52 : decode b_Ma_checkMany 52 = .ok (.putfield 73, 3) := by decide +kernel
theorem d_Ma_checkMany_55 : decode b_Ma_checkMany 55 = .ok (.aload_n 0, 1) := by decide +kernel
theorem d_Ma_checkMany_56 : decode b_Ma_checkMany 56 = .ok (.getfield 73, 3) := by decide +kernel
theorem d_Ma_checkMany_59 : decode b_Ma_checkMany 59 = .ok (.iload_n 2, 1) := by decide +kernel
theorem d_Ma_checkMany_60 : decode b_Ma_checkMany 60 = .ok (.iadd, 1) := by decide +kernel
theorem d_Ma_checkMany_61 : decode b_Ma_checkMany 61 = .ok (.iconst 1, 1) := by decide +kernel
theorem d_Ma_checkMany_62 : decode b_Ma_checkMany 62 = .ok (.isub, 1) := by decide +kernel
theorem d_Ma_checkMany_63 : decode b_Ma_checkMany 63 = .ok (.istore_n 3, 1) := by decide +kernel
theorem d_Ma_checkMany_64 : decode b_Ma_checkMany 64 = .ok (.aload_n 0, 1) := by decide +kernel
theorem d_Ma_checkMany_65 : decode b_Ma_checkMany 65 = .ok (.iload_n 2, 1) := by decide +kernel
theorem d_Ma_checkMany_66 : decode b_Ma_checkMany 66 = .ok (.invokevirtual 205, 3) := by decide +kernel
theorem d_Ma_checkMany_69 : decode b_Ma_checkMany 69 = .ok (.istore 4, 2) := by decide +kernel
theorem d_Ma_checkMany_71 : decode b_Ma_checkMany 71 = .ok (.iload 4, 2) := by decide +kernel
theorem d_Ma_checkMany_73 : decode b_Ma_checkMany 73 = .ok (.ifCond .lt 14, 3) := by decide +kernel
theorem d_Ma_checkMany_76 : decode b_Ma_checkMany 76 = .ok (.aload_n 0, 1) := by decide +kernel
theorem d_Ma_checkMany_77 : decode b_Ma_checkMany 77 = .ok (.getfield 73, 3) := by decide +kernel
theorem d_Ma_checkMany_80 : decode b_Ma_checkMany 80 = .ok (.iload 4, 2) := by decide +kernel
theorem d_Ma_checkMany_82 : decode b_Ma_checkMany 82 = .ok (.iconst 1, 1) := by decide +kernel
theorem d_Ma_checkMany_83 : decode b_Ma_checkMany 83 = .ok (.iadd, 1) := by decide +kernel
theorem d_Ma_checkMany_84 : decode b_Ma_checkMany 84 = .ok (.if_icmp .ge 5, 3) := by decide +kernel
theorem d_Ma_checkMany_87 : decode b_Ma_checkMany 87 = .ok (.iconst 0, 1) := by decide +kernel
theorem d_Ma_checkMany_88 : decode b_Ma_checkMany 88 = .ok (.ireturn, 1) := by decide +kernel
theorem d_Ma_checkMany_89 : decode b_Ma_checkMany 89 = .ok (.aload_n 0, 1) := by decide +kernel
theorem d_Ma_checkMany_90 : decode b_Ma_checkMany 90 = .ok (.getfield 73, 3) := by decide +kernel
theorem d_Ma_checkMany_93 : decode b_Ma_checkMany 93 = .ok (.iconst 1, 1) := by decide +kernel
theorem d_Ma_checkMany_94 : decode b_Ma_checkMany 94 = .ok (.isub, 1) := by decide +kernel
theorem d_Ma_checkMany_95 : decode b_Ma_checkMany 95 = .ok (.istore 5, 2) := by decide +kernel
theorem d_Ma_checkMany_97 : decode b_Ma_checkMany 97 = .ok (.aload_n 0, 1) := by decide +kernel
theorem d_Ma_checkMany_98 : decode b_Ma_checkMany 98 = .ok (.dup, 1) := by decide +kernel
theorem d_Ma_checkMany_99 : decode b_Ma_checkMany 99 = .ok (.getfield 73, 3) := by decide +kernel
theorem d_Ma_checkMany_102 : decode b_Ma_checkMany 102 = .ok (.iload 4, 2) := by decide +kernel
theorem d_Ma_checkMany_104 : decode b_Ma_checkMany 104 = .ok (.iconst 1, 1) := by decide +kernel
theorem d_Ma_checkMany_105 : decode b_Ma_checkMany 105 = .ok (.iadd, 1) := by decide +kernel
theorem d_Ma_checkMany_106 : decode b_Ma_checkMany 106 = .ok (.isub, 1) := by decide +kernel
theorem d_Ma_checkMany_107 : decode b_Ma_checkMany 107 = .ok (.putfield 73, 3) := by decide +kernel
theorem d_Ma_checkMany_110 : decode b_Ma_checkMany 110 = .ok (.iload 4, 2) := by decide +kernel
theorem d_Ma_checkMany_112 : decode b_Ma_checkMany 112 = .ok (.ifCond .le 84, 3) := by decide +kernel
theorem d_Ma_checkMany_115 : decode b_Ma_checkMany 115 = .ok (.iload 4, 2) := by decide +kernel
theorem d_Ma_checkMany_117 : decode b_Ma_checkMany 117 = .ok (.iload_n 2, 1) := by decide +kernel
theorem d_Ma_checkMany_118 : decode b_Ma_checkMany 118 = .ok (.if_icmp .gt 78, 3) := by decide +kernel
theorem d_Ma_checkMany_121 : decode b_Ma_checkMany 121 = .ok (.aload_n 0, 1) := by decide +kernel
theorem d_Ma_checkMany_122 : decode b_Ma_checkMany 122 = .ok (.invokevirtual 196, 3) := by decide +kernel
theorem d_Ma_checkMany_125 : decode b_Ma_checkMany 125 = .ok (.ifCond .eq 62, 3) := by decide +kernel
theorem d_Ma_checkMany_128 : decode b_Ma_checkMany 128 = .ok (.aload_n 0, 1) := by decide +kernel
theorem d_Ma_checkMany_129 : decode b_Ma_checkMany 129 = .ok (.getfield 40, 3) := by decide +kernel
theorem d_Ma_checkMany_132 : decode b_Ma_checkMany 132 = .ok (.aload_n 0, 1) := by decide +kernel
theorem d_Ma_checkMany_133 : decode b_Ma_checkMany 133 = .ok (.getfield 18, 3) := by decide +kernel
theorem d_Ma_checkMany_136 : decode b_Ma_checkMany 136 = .ok (.iconst 0, 1) := by decide +kernel
theorem d_Ma_checkMany_137 : decode b_Ma_checkMany 137 = .ok (.aload_n 0, 1) := by decide +kernel
theorem d_Ma_checkMany_138 : decode b_Ma_checkMany 138 = .ok (.getfield 26, 3) := by decide +kernel
theorem d_Ma_checkMany_141 : decode b_Ma_checkMany 141 = .ok (.iload_n 3, 1) := by decide +kernel
theorem d_Ma_checkMany_142 : decode b_Ma_checkMany 142 = .ok (.iaload, 1) := by decide +kernel
theorem d_Ma_checkMany_143 : decode b_Ma_checkMany 143 = .ok (.invokestatic 117, 3) := by decide +kernel
theorem d_Ma_checkMany_146 : decode b_Ma_checkMany 146 = .ok (.aload_n 0, 1) := by decide +kernel
theorem d_Ma_checkMany_147 : decode b_Ma_checkMany 147 = .ok (.getfield 26, 3) := by decide +kernel
theorem d_Ma_checkMany_150 : decode b_Ma_checkMany 150 = .ok (.iload_n 3, 1) := by decide +kernel
theorem d_Ma_checkMany_151 : decode b_Ma_checkMany 151 = .ok (.iaload, 1) := by decide +kernel
theorem d_Ma_checkMany_152 : decode b_Ma_checkMany 152 = .ok (.invokestatic 121, 3) := by decide +kernel
theorem d_Ma_checkMany_155 : decode b_Ma_checkMany 155 = .ok (.aload_n 0, 1) := by decide +kernel
theorem d_Ma_checkMany_156 : decode b_Ma_checkMany 156 = .ok (.getfield 26, 3) := by decide +kernel
theorem d_Ma_checkMany_159 : decode b_Ma_checkMany 159 = .ok (.iload 5, 2) := by decide +kernel
theorem d_Ma_checkMany_161 : decode b_Ma_checkMany 161 = .ok (.iaload, 1) := by decide +kernel
theorem d_Ma_checkMany_162 : decode b_Ma_checkMany 162 = .ok (.invokestatic 117, 3) := by decide +kernel
theorem d_Ma_checkMany_165 : decode b_Ma_checkMany 165 = .ok (.aload_n 0, 1) := by decide +kernel
theorem d_Ma_checkMany_166 : decode b_Ma_checkMany 166 = .ok (.getfield 26, 3) := by decide +kernel
theorem d_Ma_checkMany_169 : decode b_Ma_checkMany 169 = .ok (.iload 5, 2) := by decide +kernel
theorem d_Ma_checkMany_171 : decode b_Ma_checkMany 171 = .ok (.iaload, 1) := by decide +kernel
theorem d_Ma_checkMany_172 : decode b_Ma_checkMany 172 = .ok (.invokestatic 121, 3) := by decide +kernel
theorem d_Ma_checkMany_175 : decode b_Ma_checkMany 175 = .ok (.invokevirtual 199, 3) := by decide +kernel
theorem d_Ma_checkMany_178 : decode b_Ma_checkMany 178 = .ok (.ifCond .eq 9, 3) := by decide +kernel
theorem d_Ma_checkMany_181 : decode b_Ma_checkMany 181 = .ok (.iinc 5 (-1), 3) := by decide +kernel
theorem d_Ma_checkMany_184 : decode b_Ma_checkMany 184 = .ok (.iinc 4 (-1), 3) := by decide +kernel
theorem d_Ma_checkMany_187 : decode b_Ma_checkMany 187 = .ok (.iinc 3 (-1), 3) := by decide +kernel
theorem d_Ma_checkMany_190 : decode b_Ma_checkMany 190 = .ok (.iinc 2 (-1), 3) := by decide +kernel
theorem d_Ma_checkMany_193 : decode b_Ma_checkMany 193 = .ok (.goto (-83), 3) := by decide +kernel
theorem d_Ma_checkMany_196 : decode b_Ma_checkMany 196 = .ok (.aload_n 0, 1) := by decide +kernel
theorem d_Ma_checkMany_197 : decode b_Ma_checkMany 197 = .ok (.iload 4, 2) := by decide +kernel
theorem d_Ma_checkMany_199 : decode b_Ma_checkMany 199 = .ok (.ifCond .ne 9, 3) := by decide +kernel
theorem d_Ma_checkMany_202 : decode b_Ma_checkMany 202 = .ok (.sipush 8449, 3) := by decide +kernel
theorem d_Ma_checkMany_205 : decode b_Ma_checkMany 205 = .ok (.goto 4, 3) := by decide +kernel
theorem d_Ma_checkMany_208 : decode b_Ma_checkMany 208 = .ok (.iconst 0, 1) := by decide +kernel
theorem d_Ma_checkMany_209 : decode b_Ma_checkMany 209 = .ok (.invokevirtual 95, 3) := by decide +kernel
theorem d_Ma_checkMany_212 : decode b_Ma_checkMany 212 = .ok (.iload_n 1, 1) := by decide +kernel
theorem d_Ma_checkMany_213 : decode b_Ma_checkMany 213 = .ok (.sipush 174, 3) := by decide +kernel
theorem d_Ma_checkMany_216 : decode b_Ma_checkMany 216 = .ok (.if_icmp .eq 10, 3) := by decide +kernel
theorem d_Ma_checkMany_219 : decode b_Ma_checkMany 219 = .ok (.aload_n 0, 1) := by decide +kernel
theorem d_Ma_checkMany_220 : decode b_Ma_checkMany 220 = .ok (.invokevirtual 129, 3) := by decide +kernel
theorem d_Ma_checkMany_223 : decode b_Ma_checkMany 223 = .ok (.ifCond .eq 7, 3) := by decide +kernel
theorem d_Ma_checkMany_226 : decode b_Ma_checkMany 226 = .ok (.iconst 1, 1) := by decide +kernel
theorem d_Ma_checkMany_227 : decode b_Ma_checkMany 227 = .ok (.goto 4, 3) := by decide +kernel
theorem d_Ma_checkMany_230 : decode b_Ma_checkMany 230 = .ok (.iconst 0, 1) := by decide +kernel
theorem d_Ma_checkMany_231 : decode b_Ma_checkMany 231 = .ok (.ireturn, 1) := by decide +kernel
abbrev rm_Ma_checkMany : Room := { frames := 3, cells := 0, slots := 0, locals := 69 }
abbrev q_Ma_checkMany (D : va_G) (cy : Nat → ClassId) (A : Nat → Prop) (o : Nat) (v_o_sha : Value) (r_signatures : Value) (v_o_ripemd : Value) (v_a_scriptEnd : Value) (v_a_other : Value) (v_a_taken : Value) (r_layout : Value) (r_coin : Value) (a_data : Nat) (a_main : Nat) (i_otherHeight : Int32) (i_ifs : Int32) (i_ifsNotTaken : Int32) (i_free : Int32) (i_tx : Int32) (i_in : Int32) (i_messageIsThere : Int32) (g_data : Nat → Int32) (res : Int32 × Int32 × Int32 × (Nat → Int32)) : Array Value → State → Outcome → State → Prop := va_Qi (fun r' (_ : Unit) => r' = res.1) (fun _ t => Po D cy A [(o, .inr (6, [v_o_sha, r_signatures, v_o_ripemd, .ref a_data, v_a_scriptEnd, .ref a_main, v_a_other, v_a_taken, .int res.2.1, .int i_otherHeight, .int res.2.2.1, .int i_ifs, .int i_ifsNotTaken, .int i_free, r_layout, .int i_tx, .int i_in, r_coin, .int i_messageIsThere])), (a_data, .inl (cy 0, 14928, .inl g_data)), (a_main, .inl (cy 1, 204, .inl res.2.2.2))] t) A
def I_Ma_checkMany_226 (p : Program) (l : Launch) (e : Env) (s : State) (m : MethodId) (args : Array Value) (below : List Frame) (meth : Method) (c : Code) (D : va_G) (cy : Nat → ClassId) (A : Nat → Prop) (ad : Nat → Nat) (o : Nat) (v_o_sha : Value) (r_signatures : Value) (v_o_ripemd : Value) (v_a_scriptEnd : Value) (v_a_other : Value) (v_a_taken : Value) (r_layout : Value) (r_coin : Value) (a_data : Nat) (a_main : Nat) (i_otherHeight : Int32) (i_ifs : Int32) (i_ifsNotTaken : Int32) (i_free : Int32) (i_tx : Int32) (i_in : Int32) (i_messageIsThere : Int32) (g_data : Nat → Int32) (k : Int32 → Int32 → (Nat → Int32) → Option (Int32 × Int32 × Int32 × (Nat → Int32))) : Prop :=
  ∀ (u0 : Int32) (u1 : Int32) (u2 : Nat → Int32) (res : Int32 × Int32 × Int32 × (Nat → Int32)), k u0 u1 u2 = some res → ∀ (H : Heap) (locs : List Loc) (ls : Array Slot), va_P D classes [(o, .inr (6, [v_o_sha, r_signatures, v_o_ripemd, .ref a_data, v_a_scriptEnd, .ref a_main, v_a_other, v_a_taken, .int u0, .int i_otherHeight, .int u1, .int i_ifs, .int i_ifsNotTaken, .int i_free, r_layout, .int i_tx, .int i_in, r_coin, .int i_messageIsThere])), (a_data, .inl (cy 0, 14928, .inl g_data)), (a_main, .inl (cy 1, 204, .inl u2))] H → va_D A [(o, .inr (6, [v_o_sha, r_signatures, v_o_ripemd, .ref a_data, v_a_scriptEnd, .ref a_main, v_a_other, v_a_taken, .int u0, .int i_otherHeight, .int u1, .int i_ifs, .int i_ifsNotTaken, .int i_free, r_layout, .int i_tx, .int i_in, r_coin, .int i_messageIsThere])), (a_data, .inl (cy 0, 14928, .inl g_data)), (a_main, .inl (cy 1, 204, .inl u2))] → va_S A s.heap H locs → lv_has ls 6 [] → W p l e rm_Ma_checkMany s m args below meth c H locs 0 0 (MQ below (q_Ma_checkMany D cy A o v_o_sha r_signatures v_o_ripemd v_a_scriptEnd v_a_other v_a_taken r_layout r_coin a_data a_main i_otherHeight i_ifs i_ifsNotTaken i_free i_tx i_in i_messageIsThere g_data res) args s 0 0 A) (F0 m 226 ls [])
def I_Ma_checkMany_209 (p : Program) (l : Launch) (e : Env) (s : State) (m : MethodId) (args : Array Value) (below : List Frame) (meth : Method) (c : Code) (D : va_G) (cy : Nat → ClassId) (A : Nat → Prop) (ad : Nat → Nat) (o : Nat) (v_o_sha : Value) (r_signatures : Value) (v_o_ripemd : Value) (v_a_scriptEnd : Value) (v_a_other : Value) (v_a_taken : Value) (r_layout : Value) (r_coin : Value) (a_data : Nat) (a_main : Nat) (i_otherHeight : Int32) (i_ifs : Int32) (i_ifsNotTaken : Int32) (i_free : Int32) (i_tx : Int32) (i_in : Int32) (i_messageIsThere : Int32) (g_data : Nat → Int32) (k : Int32 → Int32 → Int32 → Int32 → (Nat → Int32) → Option (Int32 × Int32 × Int32 × (Nat → Int32))) : Prop :=
  ∀ (x1 : Int32) (y0 : Int32) (u0 : Int32) (u1 : Int32) (u2 : Nat → Int32) (res : Int32 × Int32 × Int32 × (Nat → Int32)), k x1 y0 u0 u1 u2 = some res → ∀ (H : Heap) (locs : List Loc) (ls : Array Slot), va_P D classes [(o, .inr (6, [v_o_sha, r_signatures, v_o_ripemd, .ref a_data, v_a_scriptEnd, .ref a_main, v_a_other, v_a_taken, .int u0, .int i_otherHeight, .int u1, .int i_ifs, .int i_ifsNotTaken, .int i_free, r_layout, .int i_tx, .int i_in, r_coin, .int i_messageIsThere])), (a_data, .inl (cy 0, 14928, .inl g_data)), (a_main, .inl (cy 1, 204, .inl u2))] H → va_D A [(o, .inr (6, [v_o_sha, r_signatures, v_o_ripemd, .ref a_data, v_a_scriptEnd, .ref a_main, v_a_other, v_a_taken, .int u0, .int i_otherHeight, .int u1, .int i_ifs, .int i_ifsNotTaken, .int i_free, r_layout, .int i_tx, .int i_in, r_coin, .int i_messageIsThere])), (a_data, .inl (cy 0, 14928, .inl g_data)), (a_main, .inl (cy 1, 204, .inl u2))] → va_S A s.heap H locs → lv_has ls 6 [(0, .ref o), (1, .int x1)] → W p l e rm_Ma_checkMany s m args below meth c H locs 0 0 (MQ below (q_Ma_checkMany D cy A o v_o_sha r_signatures v_o_ripemd v_a_scriptEnd v_a_other v_a_taken r_layout r_coin a_data a_main i_otherHeight i_ifs i_ifsNotTaken i_free i_tx i_in i_messageIsThere g_data res) args s 0 0 A) (F0 m 209 ls [.int y0, .ref o])
def I_Ma_checkMany_196 (p : Program) (l : Launch) (e : Env) (s : State) (m : MethodId) (args : Array Value) (below : List Frame) (meth : Method) (c : Code) (D : va_G) (cy : Nat → ClassId) (A : Nat → Prop) (ad : Nat → Nat) (o : Nat) (v_o_sha : Value) (r_signatures : Value) (v_o_ripemd : Value) (v_a_scriptEnd : Value) (v_a_other : Value) (v_a_taken : Value) (r_layout : Value) (r_coin : Value) (a_data : Nat) (a_main : Nat) (i_otherHeight : Int32) (i_ifs : Int32) (i_ifsNotTaken : Int32) (i_free : Int32) (i_tx : Int32) (i_in : Int32) (i_messageIsThere : Int32) (g_data : Nat → Int32) (k : Int32 → Int32 → Int32 → Int32 → (Nat → Int32) → Option (Int32 × Int32 × Int32 × (Nat → Int32))) : Prop :=
  ∀ (x1 : Int32) (x4 : Int32) (u0 : Int32) (u1 : Int32) (u2 : Nat → Int32) (res : Int32 × Int32 × Int32 × (Nat → Int32)), k x1 x4 u0 u1 u2 = some res → ∀ (H : Heap) (locs : List Loc) (ls : Array Slot), va_P D classes [(o, .inr (6, [v_o_sha, r_signatures, v_o_ripemd, .ref a_data, v_a_scriptEnd, .ref a_main, v_a_other, v_a_taken, .int u0, .int i_otherHeight, .int u1, .int i_ifs, .int i_ifsNotTaken, .int i_free, r_layout, .int i_tx, .int i_in, r_coin, .int i_messageIsThere])), (a_data, .inl (cy 0, 14928, .inl g_data)), (a_main, .inl (cy 1, 204, .inl u2))] H → va_D A [(o, .inr (6, [v_o_sha, r_signatures, v_o_ripemd, .ref a_data, v_a_scriptEnd, .ref a_main, v_a_other, v_a_taken, .int u0, .int i_otherHeight, .int u1, .int i_ifs, .int i_ifsNotTaken, .int i_free, r_layout, .int i_tx, .int i_in, r_coin, .int i_messageIsThere])), (a_data, .inl (cy 0, 14928, .inl g_data)), (a_main, .inl (cy 1, 204, .inl u2))] → va_S A s.heap H locs → lv_has ls 6 [(0, .ref o), (1, .int x1), (4, .int x4)] → W p l e rm_Ma_checkMany s m args below meth c H locs 0 0 (MQ below (q_Ma_checkMany D cy A o v_o_sha r_signatures v_o_ripemd v_a_scriptEnd v_a_other v_a_taken r_layout r_coin a_data a_main i_otherHeight i_ifs i_ifsNotTaken i_free i_tx i_in i_messageIsThere g_data res) args s 0 0 A) (F0 m 196 ls [])
def I_Ma_checkMany_110 (p : Program) (l : Launch) (e : Env) (s : State) (m : MethodId) (args : Array Value) (below : List Frame) (meth : Method) (c : Code) (D : va_G) (cy : Nat → ClassId) (A : Nat → Prop) (ad : Nat → Nat) (o : Nat) (v_o_sha : Value) (r_signatures : Value) (v_o_ripemd : Value) (v_a_scriptEnd : Value) (v_a_other : Value) (v_a_taken : Value) (r_layout : Value) (r_coin : Value) (a_data : Nat) (a_main : Nat) (i_otherHeight : Int32) (i_ifs : Int32) (i_ifsNotTaken : Int32) (i_free : Int32) (i_tx : Int32) (i_in : Int32) (i_messageIsThere : Int32) (g_data : Nat → Int32) (k : Int32 → Int32 → Int32 → Int32 → Int32 → Int32 → Int32 → (Nat → Int32) → Option (Int32 × Int32 × Int32 × (Nat → Int32))) : Prop :=
  ∀ (x1 : Int32) (x2 : Int32) (x3 : Int32) (x4 : Int32) (x5 : Int32) (u0 : Int32) (u1 : Int32) (u2 : Nat → Int32) (res : Int32 × Int32 × Int32 × (Nat → Int32)), k x1 x2 x3 x4 x5 u0 u1 u2 = some res → ∀ (H : Heap) (locs : List Loc) (ls : Array Slot), va_P D classes [(o, .inr (6, [v_o_sha, r_signatures, v_o_ripemd, .ref a_data, v_a_scriptEnd, .ref a_main, v_a_other, v_a_taken, .int u0, .int i_otherHeight, .int u1, .int i_ifs, .int i_ifsNotTaken, .int i_free, r_layout, .int i_tx, .int i_in, r_coin, .int i_messageIsThere])), (a_data, .inl (cy 0, 14928, .inl g_data)), (a_main, .inl (cy 1, 204, .inl u2))] H → va_D A [(o, .inr (6, [v_o_sha, r_signatures, v_o_ripemd, .ref a_data, v_a_scriptEnd, .ref a_main, v_a_other, v_a_taken, .int u0, .int i_otherHeight, .int u1, .int i_ifs, .int i_ifsNotTaken, .int i_free, r_layout, .int i_tx, .int i_in, r_coin, .int i_messageIsThere])), (a_data, .inl (cy 0, 14928, .inl g_data)), (a_main, .inl (cy 1, 204, .inl u2))] → va_S A s.heap H locs → lv_has ls 6 [(0, .ref o), (1, .int x1), (2, .int x2), (3, .int x3), (4, .int x4), (5, .int x5)] → W p l e rm_Ma_checkMany s m args below meth c H locs 0 0 (MQ below (q_Ma_checkMany D cy A o v_o_sha r_signatures v_o_ripemd v_a_scriptEnd v_a_other v_a_taken r_layout r_coin a_data a_main i_otherHeight i_ifs i_ifsNotTaken i_free i_tx i_in i_messageIsThere g_data res) args s 0 0 A) (F0 m 110 ls [])
def I_Ma_checkMany_e (p : Program) (l : Launch) (e : Env) (s : State) (m : MethodId) (args : Array Value) (below : List Frame) (meth : Method) (c : Code) (D : va_G) (cy : Nat → ClassId) (A : Nat → Prop) (ad : Nat → Nat) (o : Nat) (v_o_sha : Value) (r_signatures : Value) (v_o_ripemd : Value) (v_a_scriptEnd : Value) (v_a_other : Value) (v_a_taken : Value) (r_layout : Value) (r_coin : Value) (a_data : Nat) (a_main : Nat) (i_otherHeight : Int32) (i_ifs : Int32) (i_ifsNotTaken : Int32) (i_free : Int32) (i_tx : Int32) (i_in : Int32) (i_messageIsThere : Int32) (g_data : Nat → Int32) (k : Int32 → Int32 → Int32 → (Nat → Int32) → Option (Int32 × Int32 × Int32 × (Nat → Int32))) : Prop :=
  ∀ (a1 : Int32) (u0 : Int32) (u1 : Int32) (u2 : Nat → Int32) (res : Int32 × Int32 × Int32 × (Nat → Int32)), k a1 u0 u1 u2 = some res → ∀ (H : Heap) (locs : List Loc) (ls : Array Slot), va_P D classes [(o, .inr (6, [v_o_sha, r_signatures, v_o_ripemd, .ref a_data, v_a_scriptEnd, .ref a_main, v_a_other, v_a_taken, .int u0, .int i_otherHeight, .int u1, .int i_ifs, .int i_ifsNotTaken, .int i_free, r_layout, .int i_tx, .int i_in, r_coin, .int i_messageIsThere])), (a_data, .inl (cy 0, 14928, .inl g_data)), (a_main, .inl (cy 1, 204, .inl u2))] H → va_D A [(o, .inr (6, [v_o_sha, r_signatures, v_o_ripemd, .ref a_data, v_a_scriptEnd, .ref a_main, v_a_other, v_a_taken, .int u0, .int i_otherHeight, .int u1, .int i_ifs, .int i_ifsNotTaken, .int i_free, r_layout, .int i_tx, .int i_in, r_coin, .int i_messageIsThere])), (a_data, .inl (cy 0, 14928, .inl g_data)), (a_main, .inl (cy 1, 204, .inl u2))] → va_S A s.heap H locs → lv_has ls 6 [(0, .ref o), (1, .int a1)] → W p l e rm_Ma_checkMany s m args below meth c H locs 0 0 (MQ below (q_Ma_checkMany D cy A o v_o_sha r_signatures v_o_ripemd v_a_scriptEnd v_a_other v_a_taken r_layout r_coin a_data a_main i_otherHeight i_ifs i_ifsNotTaken i_free i_tx i_in i_messageIsThere g_data res) args s 0 0 A) (F0 m 0 ls [])
set_option maxHeartbeats 8000000 in
set_option maxRecDepth 100000 in
theorem wb_Ma_checkMany_226 {p : Program} {l : Launch} {e : Env} {s : State} {m : MethodId} {args : Array Value} {below : List Frame} {meth : Method} {c : Code} {D : va_G} {cy : Nat → ClassId} {A : Nat → Prop} {ad : Nat → Nat} {o : Nat} {v_o_sha : Value} {r_signatures : Value} {v_o_ripemd : Value} {v_a_scriptEnd : Value} {v_a_other : Value} {v_a_taken : Value} {r_layout : Value} {r_coin : Value} {a_data : Nat} {a_main : Nat} {i_otherHeight : Int32} {i_ifs : Int32} {i_ifsNotTaken : Int32} {i_free : Int32} {i_tx : Int32} {i_in : Int32} {i_messageIsThere : Int32} {g_data : Nat → Int32} {fu : Nat} (F : Fx p s m args meth c b_Ma_checkMany 6 "CoinKeeper$Machine" "checkMany" (some .boolean) D cy ad A) : I_Ma_checkMany_226 p l e s m args below meth c D cy A ad o v_o_sha r_signatures v_o_ripemd v_a_scriptEnd v_a_other v_a_taken r_layout r_coin a_data a_main i_otherHeight i_ifs i_ifsNotTaken i_free i_tx i_in i_messageIsThere g_data (xb_Ma_checkMany_226 fu i_otherHeight i_ifs i_ifsNotTaken i_free i_tx i_in i_messageIsThere g_data) := by
  obtain ⟨hx, hb, hr, hml, hown, hts, hlocks, hK, hA, hSt, hnm, hex⟩ := id F
  intro u0 u1 u2 res hf H locs ls hP hD hS hl
  unfold xb_Ma_checkMany_226 at hf
  refine lv_iconst (v := 1) hx hb d_Ma_checkMany_226 (by decide) ?_
  refine lv_goto (tgt := 231) hx hb d_Ma_checkMany_227 (by decide) ?_
  obtain rfl := Option.some.inj hf
  exact q_rz hx hb hr hlocks hK hP hD hS (isb_n (v := 1) (by decide)) d_Ma_checkMany_231
set_option maxHeartbeats 8000000 in
set_option maxRecDepth 100000 in
theorem wb_Ma_checkMany_209 {p : Program} {l : Launch} {e : Env} {s : State} {m : MethodId} {args : Array Value} {below : List Frame} {meth : Method} {c : Code} {D : va_G} {cy : Nat → ClassId} {A : Nat → Prop} {ad : Nat → Nat} {o : Nat} {v_o_sha : Value} {r_signatures : Value} {v_o_ripemd : Value} {v_a_scriptEnd : Value} {v_a_other : Value} {v_a_taken : Value} {r_layout : Value} {r_coin : Value} {a_data : Nat} {a_main : Nat} {i_otherHeight : Int32} {i_ifs : Int32} {i_ifsNotTaken : Int32} {i_free : Int32} {i_tx : Int32} {i_in : Int32} {i_messageIsThere : Int32} {g_data : Nat → Int32} {fu : Nat} (F : Fx p s m args meth c b_Ma_checkMany 6 "CoinKeeper$Machine" "checkMany" (some .boolean) D cy ad A) : I_Ma_checkMany_209 p l e s m args below meth c D cy A ad o v_o_sha r_signatures v_o_ripemd v_a_scriptEnd v_a_other v_a_taken r_layout r_coin a_data a_main i_otherHeight i_ifs i_ifsNotTaken i_free i_tx i_in i_messageIsThere g_data (xb_Ma_checkMany_209 fu i_otherHeight i_ifs i_ifsNotTaken i_free i_tx i_in i_messageIsThere g_data) := by
  obtain ⟨hx, hb, hr, hml, hown, hts, hlocks, hK, hA, hSt, hnm, hex⟩ := id F
  intro x1 y0 u0 u1 u2 res hf H locs ls hP hD hS hl
  unfold xb_Ma_checkMany_209 at hf
  obtain ⟨e1, f2, hc, hf⟩ := bdp2 hf
  refine q_av (wr := [(a_data, .inl (cy 0, 14928, .inl g_data))]) (va_runV (C := "CoinKeeper$Machine") (As := [.int y0]) (rest := []) ⟨hx, hb, hml, hown, hts⟩ (c_Ma_push l D cy ad fu o v_o_sha r_signatures v_o_ripemd (.ref a_data) v_a_scriptEnd v_a_other v_a_taken r_layout r_coin a_main i_otherHeight u1 i_ifs i_ifsNotTaken i_free i_tx i_in i_messageIsThere y0 u0 u2 _ hc H.size) ⟨q_cB hts gw_988 gw_6 gw_985 hdc_42 ⟨by decide, by decide⟩, hts _ gw_987, hts _ gs_28⟩ (q_preV (q_pre (hP.sub [0, 2] rfl) (hD.sub [0, 2] (by decide) rfl) hK hSt hS (va_free hD hS hA [0, 2] rfl) _) (va_recv hK (hP.sub [0, 2] rfl) (ci := 6) (q0 := 0) rfl rfl)) rfl rfl hl.1 rfl (lv_room (Nat.le_of_ble_eq_true rfl)) d_Ma_checkMany_209 ⟨Nat.le_of_ble_eq_true rfl, Nat.le_of_ble_eq_true rfl⟩) hP hD hS hA [0, 2] [1] rfl rfl (by decide) (by decide) (fun H locs hP hD hS => ?_)
  clear hc
  have hP : va_P D classes [(a_data, .inl (cy 0, 14928, .inl g_data)), (o, .inr (6, [v_o_sha, r_signatures, v_o_ripemd, .ref a_data, v_a_scriptEnd, .ref a_main, v_a_other, v_a_taken, .int e1, .int i_otherHeight, .int u1, .int i_ifs, .int i_ifsNotTaken, .int i_free, r_layout, .int i_tx, .int i_in, r_coin, .int i_messageIsThere])), (a_main, .inl (cy 1, 204, .inl f2))] H := hP
  have hD : va_D A [(a_data, .inl (cy 0, 14928, .inl g_data)), (o, .inr (6, [v_o_sha, r_signatures, v_o_ripemd, .ref a_data, v_a_scriptEnd, .ref a_main, v_a_other, v_a_taken, .int e1, .int i_otherHeight, .int u1, .int i_ifs, .int i_ifsNotTaken, .int i_free, r_layout, .int i_tx, .int i_in, r_coin, .int i_messageIsThere])), (a_main, .inl (cy 1, 204, .inl f2))] := hD
  refine lv_iload_n hx hb d_Ma_checkMany_212 rfl (lv_at hl 1 rfl) ?_
  refine lv_sipush (v := 174) hx hb d_Ma_checkMany_213 (by decide) ?_
  refine lv_icmp_eq (tgt := 226) hx hb d_Ma_checkMany_216 (by decide) (fun cx => ?_) (fun cx => ?_)
  · have hf := ifp cx hf
    exact wb_Ma_checkMany_226 (fu := fu) F _ _ _ _ hf _ _ _ (hP.sub (ws' := [(o, .inr (6, [v_o_sha, r_signatures, v_o_ripemd, .ref a_data, v_a_scriptEnd, .ref a_main, v_a_other, v_a_taken, .int e1, .int i_otherHeight, .int u1, .int i_ifs, .int i_ifsNotTaken, .int i_free, r_layout, .int i_tx, .int i_in, r_coin, .int i_messageIsThere])), (a_data, .inl (cy 0, 14928, .inl g_data)), (a_main, .inl (cy 1, 204, .inl f2))]) [1, 0, 2] rfl) (hD.sub (ws' := [(o, .inr (6, [v_o_sha, r_signatures, v_o_ripemd, .ref a_data, v_a_scriptEnd, .ref a_main, v_a_other, v_a_taken, .int e1, .int i_otherHeight, .int u1, .int i_ifs, .int i_ifsNotTaken, .int i_free, r_layout, .int i_tx, .int i_in, r_coin, .int i_messageIsThere])), (a_data, .inl (cy 0, 14928, .inl g_data)), (a_main, .inl (cy 1, 204, .inl f2))]) [1, 0, 2] (by decide) rfl) hS (lv_sub hl [] rfl)
  · have hf := ifn cx hf
    refine lv_aload_n hx hb d_Ma_checkMany_219 rfl (lv_at hl 0 rfl) ?_
    obtain ⟨v3, e4, hc, hf⟩ := bdp2 hf
    refine q_ai (wr := []) (va_runV (C := "CoinKeeper$Machine") (As := []) (rest := []) ⟨hx, hb, hml, hown, hts⟩ (c_Ma_verifyTop l D cy ad fu o v_o_sha r_signatures v_o_ripemd v_a_scriptEnd v_a_other v_a_taken r_layout r_coin a_data a_main i_otherHeight u1 i_ifs i_ifsNotTaken i_free i_tx i_in i_messageIsThere g_data f2 e1 _ hc H.size) ⟨q_cB hts gw_1171 gw_6 gw_1168 hdc_46 ⟨by decide, by decide⟩, hts _ gw_1170, hts _ gs_42⟩ (q_preV (q_pre (hP.sub [1, 0, 2] rfl) (hD.sub [1, 0, 2] (by decide) rfl) hK hSt hS (va_free hD hS hA [1, 0, 2] rfl) _) (va_recv hK (hP.sub [1, 0, 2] rfl) (ci := 6) (q0 := 0) rfl rfl)) rfl rfl hl.1 rfl (lv_room (Nat.le_of_ble_eq_true rfl)) d_Ma_checkMany_220 ⟨Nat.le_of_ble_eq_true rfl, Nat.le_of_ble_eq_true rfl⟩) hP hD hS hA [1, 0, 2] [] rfl rfl (by decide) (by decide) (fun H locs hP hD hS => ?_)
    clear hc
    have hP : va_P D classes [(o, .inr (6, [v_o_sha, r_signatures, v_o_ripemd, .ref a_data, v_a_scriptEnd, .ref a_main, v_a_other, v_a_taken, .int e4, .int i_otherHeight, .int u1, .int i_ifs, .int i_ifsNotTaken, .int i_free, r_layout, .int i_tx, .int i_in, r_coin, .int i_messageIsThere])), (a_data, .inl (cy 0, 14928, .inl g_data)), (a_main, .inl (cy 1, 204, .inl f2))] H := hP
    have hD : va_D A [(o, .inr (6, [v_o_sha, r_signatures, v_o_ripemd, .ref a_data, v_a_scriptEnd, .ref a_main, v_a_other, v_a_taken, .int e4, .int i_otherHeight, .int u1, .int i_ifs, .int i_ifsNotTaken, .int i_free, r_layout, .int i_tx, .int i_in, r_coin, .int i_messageIsThere])), (a_data, .inl (cy 0, 14928, .inl g_data)), (a_main, .inl (cy 1, 204, .inl f2))] := hD
    refine lv_if_eq (tgt := 230) hx hb d_Ma_checkMany_223 (by decide) (fun cx => ?_) (fun cx => ?_)
    · have hf := ifp cx hf
      refine lv_iconst (v := 0) hx hb d_Ma_checkMany_230 (by decide) ?_
      obtain rfl := Option.some.inj hf
      exact q_rz hx hb hr hlocks hK hP hD hS (isb_n (v := 0) (by decide)) d_Ma_checkMany_231
    · have hf := ifn cx hf
      exact wb_Ma_checkMany_226 (fu := fu) F _ _ _ _ hf _ _ _ hP hD hS (lv_sub hl [] rfl)
set_option maxHeartbeats 8000000 in
set_option maxRecDepth 100000 in
theorem wb_Ma_checkMany_196 {p : Program} {l : Launch} {e : Env} {s : State} {m : MethodId} {args : Array Value} {below : List Frame} {meth : Method} {c : Code} {D : va_G} {cy : Nat → ClassId} {A : Nat → Prop} {ad : Nat → Nat} {o : Nat} {v_o_sha : Value} {r_signatures : Value} {v_o_ripemd : Value} {v_a_scriptEnd : Value} {v_a_other : Value} {v_a_taken : Value} {r_layout : Value} {r_coin : Value} {a_data : Nat} {a_main : Nat} {i_otherHeight : Int32} {i_ifs : Int32} {i_ifsNotTaken : Int32} {i_free : Int32} {i_tx : Int32} {i_in : Int32} {i_messageIsThere : Int32} {g_data : Nat → Int32} {fu : Nat} (F : Fx p s m args meth c b_Ma_checkMany 6 "CoinKeeper$Machine" "checkMany" (some .boolean) D cy ad A) : I_Ma_checkMany_196 p l e s m args below meth c D cy A ad o v_o_sha r_signatures v_o_ripemd v_a_scriptEnd v_a_other v_a_taken r_layout r_coin a_data a_main i_otherHeight i_ifs i_ifsNotTaken i_free i_tx i_in i_messageIsThere g_data (xb_Ma_checkMany_196 fu i_otherHeight i_ifs i_ifsNotTaken i_free i_tx i_in i_messageIsThere g_data) := by
  obtain ⟨hx, hb, hr, hml, hown, hts, hlocks, hK, hA, hSt, hnm, hex⟩ := id F
  intro x1 x4 u0 u1 u2 res hf H locs ls hP hD hS hl
  unfold xb_Ma_checkMany_196 at hf
  refine lv_aload_n hx hb d_Ma_checkMany_196 rfl (lv_at hl 0 rfl) ?_
  refine lv_iload hx hb d_Ma_checkMany_197 (lv_at hl 2 rfl) ?_
  refine lv_if_ne (tgt := 208) hx hb d_Ma_checkMany_199 (by decide) (fun cx => ?_) (fun cx => ?_)
  · have hf := ifn cx hf
    refine lv_iconst (v := 0) hx hb d_Ma_checkMany_208 (by decide) ?_
    exact wb_Ma_checkMany_209 (fu := fu) F _ _ _ _ _ _ hf _ _ _ hP hD hS (lv_sub hl [0, 1] rfl)
  · have hf := ifp cx hf
    refine lv_sipush (v := 8449) hx hb d_Ma_checkMany_202 (by decide) ?_
    refine lv_goto (tgt := 209) hx hb d_Ma_checkMany_205 (by decide) ?_
    exact wb_Ma_checkMany_209 (fu := fu) F _ _ _ _ _ _ hf _ _ _ hP hD hS (lv_sub hl [0, 1] rfl)
set_option maxHeartbeats 8000000 in
set_option maxRecDepth 100000 in
theorem wb_Ma_checkMany_110 {p : Program} {l : Launch} {e : Env} {s : State} {m : MethodId} {args : Array Value} {below : List Frame} {meth : Method} {c : Code} {D : va_G} {cy : Nat → ClassId} {A : Nat → Prop} {ad : Nat → Nat} {o : Nat} {v_o_sha : Value} {r_signatures : Value} {v_o_ripemd : Value} {v_a_scriptEnd : Value} {v_a_other : Value} {v_a_taken : Value} {r_layout : Value} {r_coin : Value} {a_data : Nat} {a_main : Nat} {i_otherHeight : Int32} {i_ifs : Int32} {i_ifsNotTaken : Int32} {i_free : Int32} {i_tx : Int32} {i_in : Int32} {i_messageIsThere : Int32} {g_data : Nat → Int32} {fu : Nat} {k_110 : Int32 → Int32 → Int32 → Int32 → Int32 → Int32 → Int32 → (Nat → Int32) → Option (Int32 × Int32 × Int32 × (Nat → Int32))} (F : Fx p s m args meth c b_Ma_checkMany 6 "CoinKeeper$Machine" "checkMany" (some .boolean) D cy ad A) (hk_110 : I_Ma_checkMany_110 p l e s m args below meth c D cy A ad o v_o_sha r_signatures v_o_ripemd v_a_scriptEnd v_a_other v_a_taken r_layout r_coin a_data a_main i_otherHeight i_ifs i_ifsNotTaken i_free i_tx i_in i_messageIsThere g_data k_110) : I_Ma_checkMany_110 p l e s m args below meth c D cy A ad o v_o_sha r_signatures v_o_ripemd v_a_scriptEnd v_a_other v_a_taken r_layout r_coin a_data a_main i_otherHeight i_ifs i_ifsNotTaken i_free i_tx i_in i_messageIsThere g_data (xb_Ma_checkMany_110 fu i_otherHeight i_ifs i_ifsNotTaken i_free i_tx i_in i_messageIsThere g_data k_110) := by
  obtain ⟨hx, hb, hr, hml, hown, hts, hlocks, hK, hA, hSt, hnm, hex⟩ := id F
  intro x1 x2 x3 x4 x5 u0 u1 u2 res hf H locs ls hP hD hS hl
  unfold xb_Ma_checkMany_110 at hf
  refine lv_iload hx hb d_Ma_checkMany_110 (lv_at hl 4 rfl) ?_
  refine lv_if_le (tgt := 196) hx hb d_Ma_checkMany_112 (by decide) (fun cx => ?_) (fun cx => ?_)
  · have hf := ifp cx hf
    exact wb_Ma_checkMany_196 (fu := fu) F _ _ _ _ _ _ hf _ _ _ hP hD hS (lv_sub hl [0, 1, 4] rfl)
  · have hf := ifn cx hf
    refine lv_iload hx hb d_Ma_checkMany_115 (lv_at hl 4 rfl) ?_
    refine lv_iload_n hx hb d_Ma_checkMany_117 rfl (lv_at hl 2 rfl) ?_
    refine lv_icmp_gt (tgt := 196) hx hb d_Ma_checkMany_118 (by decide) (fun cx => ?_) (fun cx => ?_)
    · have hf := ifp cx hf
      exact wb_Ma_checkMany_196 (fu := fu) F _ _ _ _ _ _ hf _ _ _ hP hD hS (lv_sub hl [0, 1, 4] rfl)
    · have hf := ifn cx hf
      refine lv_aload_n hx hb d_Ma_checkMany_121 rfl (lv_at hl 0 rfl) ?_
      exact nomatch hf
theorem w_Ma_checkMany_110 {p : Program} {l : Launch} {e : Env} {s : State} {m : MethodId} {args : Array Value} {below : List Frame} {meth : Method} {c : Code} {D : va_G} {cy : Nat → ClassId} {A : Nat → Prop} {ad : Nat → Nat} {o : Nat} {v_o_sha : Value} {r_signatures : Value} {v_o_ripemd : Value} {v_a_scriptEnd : Value} {v_a_other : Value} {v_a_taken : Value} {r_layout : Value} {r_coin : Value} {a_data : Nat} {a_main : Nat} {i_otherHeight : Int32} {i_ifs : Int32} {i_ifsNotTaken : Int32} {i_free : Int32} {i_tx : Int32} {i_in : Int32} {i_messageIsThere : Int32} {g_data : Nat → Int32} {fu : Nat} (F : Fx p s m args meth c b_Ma_checkMany 6 "CoinKeeper$Machine" "checkMany" (some .boolean) D cy ad A) : ∀ n : Nat, I_Ma_checkMany_110 p l e s m args below meth c D cy A ad o v_o_sha r_signatures v_o_ripemd v_a_scriptEnd v_a_other v_a_taken r_layout r_coin a_data a_main i_otherHeight i_ifs i_ifsNotTaken i_free i_tx i_in i_messageIsThere g_data (x_Ma_checkMany_110 fu i_otherHeight i_ifs i_ifsNotTaken i_free i_tx i_in i_messageIsThere g_data n)
  | 0 => fun _ _ _ _ _ _ _ _ _ hf => nomatch (show (none : Option (Int32 × Int32 × Int32 × (Nat → Int32))) = some _ from hf)
  | n + 1 => wb_Ma_checkMany_110 F (w_Ma_checkMany_110 F n)
theorem hdc_60 : ({ cls := "CoinKeeper$Machine", name := "popLimited", desc := "(I)I" } : Jvm.MethodName).cls ≠ "java/lang/invoke/MethodHandle" ∧ ({ cls := "CoinKeeper$Machine", name := "popLimited", desc := "(I)I" } : Jvm.MethodName).cls ≠ "java/lang/invoke/VarHandle" ∧ (parseMethodDescriptor ({ cls := "CoinKeeper$Machine", name := "popLimited", desc := "(I)I" } : Jvm.MethodName).desc).map (fun d => d.parameters.length) = some 1 := by decide +kernel
set_option maxHeartbeats 8000000 in
set_option maxRecDepth 100000 in
theorem we_Ma_checkMany {p : Program} {l : Launch} {e : Env} {s : State} {m : MethodId} {args : Array Value} {below : List Frame} {meth : Method} {c : Code} {D : va_G} {cy : Nat → ClassId} {A : Nat → Prop} {ad : Nat → Nat} {o : Nat} {v_o_sha : Value} {r_signatures : Value} {v_o_ripemd : Value} {v_a_scriptEnd : Value} {v_a_other : Value} {v_a_taken : Value} {r_layout : Value} {r_coin : Value} {a_data : Nat} {a_main : Nat} {i_otherHeight : Int32} {i_ifs : Int32} {i_ifsNotTaken : Int32} {i_free : Int32} {i_tx : Int32} {i_in : Int32} {i_messageIsThere : Int32} {g_data : Nat → Int32} {fu : Nat} (F : Fx p s m args meth c b_Ma_checkMany 6 "CoinKeeper$Machine" "checkMany" (some .boolean) D cy ad A) : I_Ma_checkMany_e p l e s m args below meth c D cy A ad o v_o_sha r_signatures v_o_ripemd v_a_scriptEnd v_a_other v_a_taken r_layout r_coin a_data a_main i_otherHeight i_ifs i_ifsNotTaken i_free i_tx i_in i_messageIsThere g_data (x_Ma_checkMany fu i_otherHeight i_ifs i_ifsNotTaken i_free i_tx i_in i_messageIsThere g_data) := by
  obtain ⟨hx, hb, hr, hml, hown, hts, hlocks, hK, hA, hSt, hnm, hex⟩ := id F
  intro a1 u0 u1 u2 res hf H locs ls hP hD hS hl
  unfold x_Ma_checkMany at hf
  refine lv_aload_n hx hb d_Ma_checkMany_0 rfl (lv_at hl 0 rfl) ?_
  refine lv_bipush (v := 20) hx hb d_Ma_checkMany_1 (by decide) ?_
  obtain ⟨v1, e2, hc, hf⟩ := bdp2 hf
  refine q_ai (wr := []) (va_runV (C := "CoinKeeper$Machine") (As := [.int (20 : Int32)]) (rest := []) ⟨hx, hb, hml, hown, hts⟩ (c_Ma_popLimited l D cy ad fu o v_o_sha r_signatures v_o_ripemd v_a_scriptEnd v_a_other v_a_taken r_layout r_coin a_data a_main i_otherHeight u1 i_ifs i_ifsNotTaken i_free i_tx i_in i_messageIsThere g_data u2 (20 : Int32) u0 _ hc H.size) ⟨q_cB hts gw_1010 gw_6 gw_1007 hdc_60 ⟨by decide, by decide⟩, hts _ gw_1009, hts _ gs_32⟩ (q_preV (q_pre (hP.sub [0, 1, 2] rfl) (hD.sub [0, 1, 2] (by decide) rfl) hK hSt hS (va_free hD hS hA [0, 1, 2] rfl) _) (va_recv hK (hP.sub [0, 1, 2] rfl) (ci := 6) (q0 := 0) rfl rfl)) rfl rfl hl.1 rfl (lv_room (Nat.le_of_ble_eq_true rfl)) d_Ma_checkMany_3 ⟨Nat.le_of_ble_eq_true rfl, Nat.le_of_ble_eq_true rfl⟩) hP hD hS hA [0, 1, 2] [] rfl rfl (by decide) (by decide) (fun H locs hP hD hS => ?_)
  clear hc
  have hP : va_P D classes [(o, .inr (6, [v_o_sha, r_signatures, v_o_ripemd, .ref a_data, v_a_scriptEnd, .ref a_main, v_a_other, v_a_taken, .int e2, .int i_otherHeight, .int u1, .int i_ifs, .int i_ifsNotTaken, .int i_free, r_layout, .int i_tx, .int i_in, r_coin, .int i_messageIsThere])), (a_data, .inl (cy 0, 14928, .inl g_data)), (a_main, .inl (cy 1, 204, .inl u2))] H := hP
  have hD : va_D A [(o, .inr (6, [v_o_sha, r_signatures, v_o_ripemd, .ref a_data, v_a_scriptEnd, .ref a_main, v_a_other, v_a_taken, .int e2, .int i_otherHeight, .int u1, .int i_ifs, .int i_ifsNotTaken, .int i_free, r_layout, .int i_tx, .int i_in, r_coin, .int i_messageIsThere])), (a_data, .inl (cy 0, 14928, .inl g_data)), (a_main, .inl (cy 1, 204, .inl u2))] := hD
  refine lv_istore_n (lv' := [(2, .int v1), (0, .ref o), (1, .int a1)]) hx hb d_Ma_checkMany_6 rfl hl (by decide) rfl (fun ls hl => ?_)
  refine lv_aload_n hx hb d_Ma_checkMany_7 rfl (lv_at hl 1 rfl) ?_
  refine lv_dup hx hb d_Ma_checkMany_8 rfl ?_
  refine va_get (D := D) (ci := 6) (v := .int u1) (C := "CoinKeeper$Machine") (T := F_6) (N := 19) hx hb hts i_6 hown hK hP 0 rfl rfl 10 (by decide) (hts _ gw_214) (fun _ h9 => h9) rfl d_Ma_checkMany_9 ?_
  refine lv_iload_n hx hb d_Ma_checkMany_12 rfl (lv_at hl 0 rfl) ?_
  refine lv_iconst (v := 0) hx hb d_Ma_checkMany_13 (by decide) ?_
  refine va_mmax (rest := [.int u1, .ref o]) hx hb (hml.trans hl.1.symm) hown (hts _ gw_1020) (hts _ gw_457) (hts _ gw_15) (hts _ gw_458) (by decide) (Nat.le_of_ble_eq_true rfl) (Nat.zero_le _) (Nat.zero_le _) d_Ma_checkMany_14 ?_
  refine lv_topi (fun v3 ev => ?_)
  have hf := bn ev hf
  clear ev
  refine lv_iadd hx hb d_Ma_checkMany_17 ?_
  refine lv_topi (fun v4 ev => ?_)
  have hf := bn ev hf
  clear ev
  refine va_put (D := D) (ci := 6) (v := .int v4) (ty := .int) (C := "CoinKeeper$Machine") (T := F_6) (N := 19) hx hb hts i_6 t_6 t_6_ok n_6 hown hK hP hD hS 0 rfl rfl 10 (by decide) (hts _ gw_214) (fun _ h9 => h9) rfl (by decide +kernel) rfl rfl (Nat.le_of_ble_eq_true rfl) d_Ma_checkMany_18 (fun H locs hP hD hS => ?_)
  have hP : va_P D classes [(o, .inr (6, [v_o_sha, r_signatures, v_o_ripemd, .ref a_data, v_a_scriptEnd, .ref a_main, v_a_other, v_a_taken, .int e2, .int i_otherHeight, .int v4, .int i_ifs, .int i_ifsNotTaken, .int i_free, r_layout, .int i_tx, .int i_in, r_coin, .int i_messageIsThere])), (a_data, .inl (cy 0, 14928, .inl g_data)), (a_main, .inl (cy 1, 204, .inl u2))] H := hP
  have hD : va_D A [(o, .inr (6, [v_o_sha, r_signatures, v_o_ripemd, .ref a_data, v_a_scriptEnd, .ref a_main, v_a_other, v_a_taken, .int e2, .int i_otherHeight, .int v4, .int i_ifs, .int i_ifsNotTaken, .int i_free, r_layout, .int i_tx, .int i_in, r_coin, .int i_messageIsThere])), (a_data, .inl (cy 0, 14928, .inl g_data)), (a_main, .inl (cy 1, 204, .inl u2))] := hD
  refine lv_iload_n hx hb d_Ma_checkMany_21 rfl (lv_at hl 0 rfl) ?_
  refine lv_if_lt (tgt := 43) hx hb d_Ma_checkMany_22 (by decide) (fun cx => ?_) (fun cx => ?_)
  · have hf := ifp cx hf
    refine lv_iconst (v := 0) hx hb d_Ma_checkMany_43 (by decide) ?_
    obtain rfl := Option.some.inj hf
    exact q_rz hx hb hr hlocks hK hP hD hS (isb_n (v := 0) (by decide)) d_Ma_checkMany_44
  · have hf := ifn cx hf
    refine lv_aload_n hx hb d_Ma_checkMany_25 rfl (lv_at hl 1 rfl) ?_
    refine va_get (D := D) (ci := 6) (v := .int v4) (C := "CoinKeeper$Machine") (T := F_6) (N := 19) hx hb hts i_6 hown hK hP 0 rfl rfl 10 (by decide) (hts _ gw_214) (fun _ h9 => h9) rfl d_Ma_checkMany_26 ?_
    refine lv_sipush (v := 201) hx hb d_Ma_checkMany_29 (by decide) ?_
    refine lv_icmp_gt (tgt := 43) hx hb d_Ma_checkMany_32 (by decide) (fun cx => ?_) (fun cx => ?_)
    · have hf := ifp cx hf
      refine lv_iconst (v := 0) hx hb d_Ma_checkMany_43 (by decide) ?_
      obtain rfl := Option.some.inj hf
      exact q_rz hx hb hr hlocks hK hP hD hS (isb_n (v := 0) (by decide)) d_Ma_checkMany_44
    · have hf := ifn cx hf
      refine lv_aload_n hx hb d_Ma_checkMany_35 rfl (lv_at hl 1 rfl) ?_
      refine va_get (D := D) (ci := 6) (v := .int e2) (C := "CoinKeeper$Machine") (T := F_6) (N := 19) hx hb hts i_6 hown hK hP 0 rfl rfl 8 (by decide) (hts _ gw_212) (fun _ h9 => h9) rfl d_Ma_checkMany_36 ?_
      refine lv_iload_n hx hb d_Ma_checkMany_39 rfl (lv_at hl 0 rfl) ?_
      refine lv_icmp_ge (tgt := 45) hx hb d_Ma_checkMany_40 (by decide) (fun cx => ?_) (fun cx => ?_)
      · have hf := ifp cx hf
        refine lv_aload_n hx hb d_Ma_checkMany_45 rfl (lv_at hl 1 rfl) ?_
        refine lv_dup hx hb d_Ma_checkMany_46 rfl ?_
        refine va_get (D := D) (ci := 6) (v := .int e2) (C := "CoinKeeper$Machine") (T := F_6) (N := 19) hx hb hts i_6 hown hK hP 0 rfl rfl 8 (by decide) (hts _ gw_212) (fun _ h9 => h9) rfl d_Ma_checkMany_47 ?_
        refine lv_iload_n hx hb d_Ma_checkMany_50 rfl (lv_at hl 0 rfl) ?_
        refine lv_isub hx hb d_Ma_checkMany_51 ?_
        refine lv_topi (fun v5 ev => ?_)
        have hf := bn ev hf
        clear ev
        refine va_put (D := D) (ci := 6) (v := .int v5) (ty := .int) (C := "CoinKeeper$Machine") (T := F_6) (N := 19) hx hb hts i_6 t_6 t_6_ok n_6 hown hK hP hD hS 0 rfl rfl 8 (by decide) (hts _ gw_212) (fun _ h9 => h9) rfl (by decide +kernel) rfl rfl (Nat.le_of_ble_eq_true rfl) d_Ma_checkMany_52 (fun H locs hP hD hS => ?_)
        have hP : va_P D classes [(o, .inr (6, [v_o_sha, r_signatures, v_o_ripemd, .ref a_data, v_a_scriptEnd, .ref a_main, v_a_other, v_a_taken, .int v5, .int i_otherHeight, .int v4, .int i_ifs, .int i_ifsNotTaken, .int i_free, r_layout, .int i_tx, .int i_in, r_coin, .int i_messageIsThere])), (a_data, .inl (cy 0, 14928, .inl g_data)), (a_main, .inl (cy 1, 204, .inl u2))] H := hP
        have hD : va_D A [(o, .inr (6, [v_o_sha, r_signatures, v_o_ripemd, .ref a_data, v_a_scriptEnd, .ref a_main, v_a_other, v_a_taken, .int v5, .int i_otherHeight, .int v4, .int i_ifs, .int i_ifsNotTaken, .int i_free, r_layout, .int i_tx, .int i_in, r_coin, .int i_messageIsThere])), (a_data, .inl (cy 0, 14928, .inl g_data)), (a_main, .inl (cy 1, 204, .inl u2))] := hD
        refine lv_aload_n hx hb d_Ma_checkMany_55 rfl (lv_at hl 1 rfl) ?_
        refine va_get (D := D) (ci := 6) (v := .int v5) (C := "CoinKeeper$Machine") (T := F_6) (N := 19) hx hb hts i_6 hown hK hP 0 rfl rfl 8 (by decide) (hts _ gw_212) (fun _ h9 => h9) rfl d_Ma_checkMany_56 ?_
        refine lv_iload_n hx hb d_Ma_checkMany_59 rfl (lv_at hl 0 rfl) ?_
        refine lv_iadd hx hb d_Ma_checkMany_60 ?_
        refine lv_topi (fun v6 ev => ?_)
        have hf := bn ev hf
        clear ev
        refine lv_iconst (v := 1) hx hb d_Ma_checkMany_61 (by decide) ?_
        refine lv_isub hx hb d_Ma_checkMany_62 ?_
        refine lv_topi (fun v7 ev => ?_)
        have hf := bn ev hf
        clear ev
        refine lv_istore_n (lv' := [(3, .int v7), (2, .int v1), (0, .ref o), (1, .int a1)]) hx hb d_Ma_checkMany_63 rfl hl (by decide) rfl (fun ls hl => ?_)
        refine lv_aload_n hx hb d_Ma_checkMany_64 rfl (lv_at hl 2 rfl) ?_
        refine lv_iload_n hx hb d_Ma_checkMany_65 rfl (lv_at hl 1 rfl) ?_
        obtain ⟨v8, e9, hc, hf⟩ := bdp2 hf
        refine q_ai (wr := []) (va_runV (C := "CoinKeeper$Machine") (As := [.int v1]) (rest := []) ⟨hx, hb, hml, hown, hts⟩ (c_Ma_popLimited l D cy ad fu o v_o_sha r_signatures v_o_ripemd v_a_scriptEnd v_a_other v_a_taken r_layout r_coin a_data a_main i_otherHeight v4 i_ifs i_ifsNotTaken i_free i_tx i_in i_messageIsThere g_data u2 v1 v5 _ hc H.size) ⟨q_cB hts gw_1010 gw_6 gw_1007 hdc_60 ⟨by decide, by decide⟩, hts _ gw_1009, hts _ gs_32⟩ (q_preV (q_pre (hP.sub [0, 1, 2] rfl) (hD.sub [0, 1, 2] (by decide) rfl) hK hSt hS (va_free hD hS hA [0, 1, 2] rfl) _) (va_recv hK (hP.sub [0, 1, 2] rfl) (ci := 6) (q0 := 0) rfl rfl)) rfl rfl hl.1 rfl (lv_room (Nat.le_of_ble_eq_true rfl)) d_Ma_checkMany_66 ⟨Nat.le_of_ble_eq_true rfl, Nat.le_of_ble_eq_true rfl⟩) hP hD hS hA [0, 1, 2] [] rfl rfl (by decide) (by decide) (fun H locs hP hD hS => ?_)
        clear hc
        have hP : va_P D classes [(o, .inr (6, [v_o_sha, r_signatures, v_o_ripemd, .ref a_data, v_a_scriptEnd, .ref a_main, v_a_other, v_a_taken, .int e9, .int i_otherHeight, .int v4, .int i_ifs, .int i_ifsNotTaken, .int i_free, r_layout, .int i_tx, .int i_in, r_coin, .int i_messageIsThere])), (a_data, .inl (cy 0, 14928, .inl g_data)), (a_main, .inl (cy 1, 204, .inl u2))] H := hP
        have hD : va_D A [(o, .inr (6, [v_o_sha, r_signatures, v_o_ripemd, .ref a_data, v_a_scriptEnd, .ref a_main, v_a_other, v_a_taken, .int e9, .int i_otherHeight, .int v4, .int i_ifs, .int i_ifsNotTaken, .int i_free, r_layout, .int i_tx, .int i_in, r_coin, .int i_messageIsThere])), (a_data, .inl (cy 0, 14928, .inl g_data)), (a_main, .inl (cy 1, 204, .inl u2))] := hD
        refine lv_istore (lv' := [(4, .int v8), (3, .int v7), (2, .int v1), (0, .ref o), (1, .int a1)]) hx hb d_Ma_checkMany_69 hl (by decide) rfl (fun ls hl => ?_)
        refine lv_iload hx hb d_Ma_checkMany_71 (lv_at hl 0 rfl) ?_
        refine lv_if_lt (tgt := 87) hx hb d_Ma_checkMany_73 (by decide) (fun cx => ?_) (fun cx => ?_)
        · have hf := ifp cx hf
          refine lv_iconst (v := 0) hx hb d_Ma_checkMany_87 (by decide) ?_
          obtain rfl := Option.some.inj hf
          exact q_rz hx hb hr hlocks hK hP hD hS (isb_n (v := 0) (by decide)) d_Ma_checkMany_88
        · have hf := ifn cx hf
          refine lv_aload_n hx hb d_Ma_checkMany_76 rfl (lv_at hl 3 rfl) ?_
          refine va_get (D := D) (ci := 6) (v := .int e9) (C := "CoinKeeper$Machine") (T := F_6) (N := 19) hx hb hts i_6 hown hK hP 0 rfl rfl 8 (by decide) (hts _ gw_212) (fun _ h9 => h9) rfl d_Ma_checkMany_77 ?_
          refine lv_iload hx hb d_Ma_checkMany_80 (lv_at hl 0 rfl) ?_
          refine lv_iconst (v := 1) hx hb d_Ma_checkMany_82 (by decide) ?_
          refine lv_iadd hx hb d_Ma_checkMany_83 ?_
          refine lv_icmp_ge (tgt := 89) hx hb d_Ma_checkMany_84 (by decide) (fun cx => ?_) (fun cx => ?_)
          · have hf := ifp cx hf
            refine lv_aload_n hx hb d_Ma_checkMany_89 rfl (lv_at hl 3 rfl) ?_
            refine va_get (D := D) (ci := 6) (v := .int e9) (C := "CoinKeeper$Machine") (T := F_6) (N := 19) hx hb hts i_6 hown hK hP 0 rfl rfl 8 (by decide) (hts _ gw_212) (fun _ h9 => h9) rfl d_Ma_checkMany_90 ?_
            refine lv_iconst (v := 1) hx hb d_Ma_checkMany_93 (by decide) ?_
            refine lv_isub hx hb d_Ma_checkMany_94 ?_
            refine lv_topi (fun v10 ev => ?_)
            have hf := bn ev hf
            clear ev
            refine lv_istore (lv' := [(5, .int v10), (4, .int v8), (3, .int v7), (2, .int v1), (0, .ref o), (1, .int a1)]) hx hb d_Ma_checkMany_95 hl (by decide) rfl (fun ls hl => ?_)
            refine lv_aload_n hx hb d_Ma_checkMany_97 rfl (lv_at hl 4 rfl) ?_
            refine lv_dup hx hb d_Ma_checkMany_98 rfl ?_
            refine va_get (D := D) (ci := 6) (v := .int e9) (C := "CoinKeeper$Machine") (T := F_6) (N := 19) hx hb hts i_6 hown hK hP 0 rfl rfl 8 (by decide) (hts _ gw_212) (fun _ h9 => h9) rfl d_Ma_checkMany_99 ?_
            refine lv_iload hx hb d_Ma_checkMany_102 (lv_at hl 1 rfl) ?_
            refine lv_iconst (v := 1) hx hb d_Ma_checkMany_104 (by decide) ?_
            refine lv_iadd hx hb d_Ma_checkMany_105 ?_
            refine lv_isub hx hb d_Ma_checkMany_106 ?_
            refine lv_topi (fun v11 ev => ?_)
            have hf := bn ev hf
            clear ev
            refine va_put (D := D) (ci := 6) (v := .int v11) (ty := .int) (C := "CoinKeeper$Machine") (T := F_6) (N := 19) hx hb hts i_6 t_6 t_6_ok n_6 hown hK hP hD hS 0 rfl rfl 8 (by decide) (hts _ gw_212) (fun _ h9 => h9) rfl (by decide +kernel) rfl rfl (Nat.le_of_ble_eq_true rfl) d_Ma_checkMany_107 (fun H locs hP hD hS => ?_)
            have hP : va_P D classes [(o, .inr (6, [v_o_sha, r_signatures, v_o_ripemd, .ref a_data, v_a_scriptEnd, .ref a_main, v_a_other, v_a_taken, .int v11, .int i_otherHeight, .int v4, .int i_ifs, .int i_ifsNotTaken, .int i_free, r_layout, .int i_tx, .int i_in, r_coin, .int i_messageIsThere])), (a_data, .inl (cy 0, 14928, .inl g_data)), (a_main, .inl (cy 1, 204, .inl u2))] H := hP
            have hD : va_D A [(o, .inr (6, [v_o_sha, r_signatures, v_o_ripemd, .ref a_data, v_a_scriptEnd, .ref a_main, v_a_other, v_a_taken, .int v11, .int i_otherHeight, .int v4, .int i_ifs, .int i_ifsNotTaken, .int i_free, r_layout, .int i_tx, .int i_in, r_coin, .int i_messageIsThere])), (a_data, .inl (cy 0, 14928, .inl g_data)), (a_main, .inl (cy 1, 204, .inl u2))] := hD
            exact w_Ma_checkMany_110 F fu _ _ _ _ _ _ _ _ _ hf _ _ _ hP hD hS (lv_sub hl [4, 5, 3, 2, 1, 0] rfl)
          · have hf := ifn cx hf
            refine lv_iconst (v := 0) hx hb d_Ma_checkMany_87 (by decide) ?_
            obtain rfl := Option.some.inj hf
            exact q_rz hx hb hr hlocks hK hP hD hS (isb_n (v := 0) (by decide)) d_Ma_checkMany_88
      · have hf := ifn cx hf
        refine lv_iconst (v := 0) hx hb d_Ma_checkMany_43 (by decide) ?_
        obtain rfl := Option.some.inj hf
        exact q_rz hx hb hr hlocks hK hP hD hS (isb_n (v := 0) (by decide)) d_Ma_checkMany_44
theorem c_Ma_checkMany (l : Launch) (D : va_G) (cy : Nat → ClassId) (ad : Nat → Nat) (fu : Nat) (o : Nat) (v_o_sha : Value) (r_signatures : Value) (v_o_ripemd : Value) (v_a_scriptEnd : Value) (v_a_other : Value) (v_a_taken : Value) (r_layout : Value) (r_coin : Value) (a_data : Nat) (a_main : Nat) (i_otherHeight : Int32) (i_ifs : Int32) (i_ifsNotTaken : Int32) (i_free : Int32) (i_tx : Int32) (i_in : Int32) (i_messageIsThere : Int32) (g_data : Nat → Int32) (a1 : Int32) (u0 : Int32) (u1 : Int32) (u2 : Nat → Int32) (res : Int32 × Int32 × Int32 × (Nat → Int32)) (hf : x_Ma_checkMany fu i_otherHeight i_ifs i_ifsNotTaken i_free i_tx i_in i_messageIsThere g_data a1 u0 u1 u2 = some res) (sz : Nat) : Met l ({ cls := "CoinKeeper$Machine", name := "checkMany", desc := "(I)Z" } : Jvm.MethodName) (.code ({ cls := "CoinKeeper$Machine", name := "checkMany", desc := "(I)Z" } : Jvm.MethodName) b_Ma_checkMany 6 (some .boolean) :: gw) rm_Ma_checkMany (va_Pc [.ref o, .int a1] (Pr D cy ad [(o, .inr (6, [v_o_sha, r_signatures, v_o_ripemd, .ref a_data, v_a_scriptEnd, .ref a_main, v_a_other, v_a_taken, .int u0, .int i_otherHeight, .int u1, .int i_ifs, .int i_ifsNotTaken, .int i_free, r_layout, .int i_tx, .int i_in, r_coin, .int i_messageIsThere])), (a_data, .inl (cy 0, 14928, .inl g_data)), (a_main, .inl (cy 1, 204, .inl u2))] sz)) (q_Ma_checkMany D cy (va_A [(o, .inr (6, [v_o_sha, r_signatures, v_o_ripemd, .ref a_data, v_a_scriptEnd, .ref a_main, v_a_other, v_a_taken, .int u0, .int i_otherHeight, .int u1, .int i_ifs, .int i_ifsNotTaken, .int i_free, r_layout, .int i_tx, .int i_in, r_coin, .int i_messageIsThere])), (a_data, .inl (cy 0, 14928, .inl g_data)), (a_main, .inl (cy 1, 204, .inl u2))] sz) o v_o_sha r_signatures v_o_ripemd v_a_scriptEnd v_a_other v_a_taken r_layout r_coin a_data a_main i_otherHeight i_ifs i_ifsNotTaken i_free i_tx i_in i_messageIsThere g_data res) 0 0 (va_A [(o, .inr (6, [v_o_sha, r_signatures, v_o_ripemd, .ref a_data, v_a_scriptEnd, .ref a_main, v_a_other, v_a_taken, .int u0, .int i_otherHeight, .int u1, .int i_ifs, .int i_ifsNotTaken, .int i_free, r_layout, .int i_tx, .int i_in, r_coin, .int i_messageIsThere])), (a_data, .inl (cy 0, 14928, .inl g_data)), (a_main, .inl (cy 1, 204, .inl u2))] sz) :=
  q_met (Qc := fun A => q_Ma_checkMany D cy A o v_o_sha r_signatures v_o_ripemd v_a_scriptEnd v_a_other v_a_taken r_layout r_coin a_data a_main i_otherHeight i_ifs i_ifsNotTaken i_free i_tx i_in i_messageIsThere g_data res) (by decide) rfl rfl (Nat.le_of_ble_eq_true rfl) (fun p e s m below meth c ls F hP hD hS hl => we_Ma_checkMany (fu := fu) F a1 u0 u1 u2 res hf _ _ _ hP hD hS hl) sz
