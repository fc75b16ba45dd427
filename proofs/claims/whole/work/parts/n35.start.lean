abbrev st_c : Cond := Jvm.Cond.and given_1 narrow_1
theorem st_eqi {args : Array Value} {s : State} {t : Term} {z : Int32} (h : (Cond.eq t (.int z)).before args s = true) : t.eval args s none [] s = some (.int z) := by
  cases hv : t.eval args s none [] s with
  | none => simp [Cond.before, Cond.holds, Cond.value, hv] at h
  | some w =>
    have hz : (Term.int z).eval args s none [] s = some (.int z) := rfl
    simp only [Cond.before, Cond.holds, Cond.value, hv, hz] at h
    cases w <;> simp_all
theorem st_eql {args : Array Value} {s : State} {t : Term} {z : Int64} (h : (Cond.eq t (.long z)).before args s = true) : t.eval args s none [] s = some (.long z) := by
  cases hv : t.eval args s none [] s with
  | none => simp [Cond.before, Cond.holds, Cond.value, hv] at h
  | some w =>
    have hz : (Term.long z).eval args s none [] s = some (.long z) := rfl
    simp only [Cond.before, Cond.holds, Cond.value, hv, hz] at h
    cases w <;> simp_all
theorem st_arr {args : Array Value} {s : State} {ty : FieldType} (h : (Cond.arrayClass ty).before args s = true) : ∃ c, ArrOfT s c ty ∧ s.vm.findClass ("[" ++ ty.toString) = some c := by
  obtain ⟨c, k, cc, h1, h2, h3⟩ := Cond.arrayClass_spec h
  exact ⟨c, fun n z => ⟨fun k hk => (by cases hk), k, h2, cc, h3⟩, h1⟩
theorem st_obj {args : Array Value} {s : State} {C : String} (h : (Cond.arrayOver (.object C)).before args s = true) : ∃ c, ArrOfT s c (.object C) ∧ va_RA s c (.object C) := by
  obtain ⟨comp, c, k, h1, h2, h3, h4, h5⟩ := Cond.arrayOver_spec h
  exact ⟨c, fun n z => ⟨fun k hk => (by cases hk), k, h3, comp, h4⟩, k, comp, h3, h4, h1, h5⟩
theorem st_at {args : Array Value} {s : State} (h : st_c.before args s = true) {i : Nat} {x : Cond} (hi : (flatC st_c)[i]? = some x) : x.before args s = true := flat_of_before _ h _ (List.mem_of_getElem? hi)
theorem st_a_0 : (flatC st_c)[5]? = some (.arrayOf (.static "CoinKeeper$Point" "ODDS_OF_BASE" "[I") .int) := by decide +kernel
theorem st_l_0 : (flatC st_c)[6]? = some (.eq (.length (.static "CoinKeeper$Point" "ODDS_OF_BASE" "[I")) (.int (Int32.ofNat 160))) := by decide +kernel
set_option maxRecDepth 20000 in
theorem st_e_0 : ∀ j, j < 160 → (flatC st_c)[7 + j]? = some (.eq (.elem (.static "CoinKeeper$Point" "ODDS_OF_BASE" "[I") (.int (Int32.ofNat j))) (.int (tb_0.getD j 0))) := by decide +kernel
theorem st_s_0 {args : Array Value} {s : State} (htl : ∀ w ∈ lw_tbl, w.before args s = true) (hg : st_c.before args s = true) {A : Nat → Prop} (hA : ∀ a : Nat, a < s.heap.size → ¬ A a) : ∃ t : Nat, va_Z "CoinKeeper$Point" "ODDS_OF_BASE" "[I" (.ref t) A s s.heap ∧ va_T .int t 160 (fun j => .int (tb_0.getD j 0)) A s s.heap := by
  obtain ⟨t, h1, h2⟩ := va_Tof (tm := (.static "CoinKeeper$Point" "ODDS_OF_BASE" "[I")) (ty := .int) (N := 160) (f := fun j => .int (tb_0.getD j 0)) (A := A) (by decide) (st_at hg st_a_0) (st_eqi (st_at hg st_l_0)) (fun j hj => st_eqi (st_at hg (st_e_0 j hj))) hA
  exact ⟨t, va_Zref (htl _ mw_134) (htl _ (gw_in _ gw_5)) h1 hA, h2⟩
theorem st_a_1 : (flatC st_c)[174]? = some (.arrayOf (.static "CoinKeeper$Sha256" "START" "[I") .int) := by decide +kernel
theorem st_l_1 : (flatC st_c)[175]? = some (.eq (.length (.static "CoinKeeper$Sha256" "START" "[I")) (.int (Int32.ofNat 8))) := by decide +kernel
set_option maxRecDepth 20000 in
theorem st_e_1 : ∀ j, j < 8 → (flatC st_c)[176 + j]? = some (.eq (.elem (.static "CoinKeeper$Sha256" "START" "[I") (.int (Int32.ofNat j))) (.int (tb_1.getD j 0))) := by decide +kernel
theorem st_s_1 {args : Array Value} {s : State} (htl : ∀ w ∈ lw_tbl, w.before args s = true) (hg : st_c.before args s = true) {A : Nat → Prop} (hA : ∀ a : Nat, a < s.heap.size → ¬ A a) : ∃ t : Nat, va_Z "CoinKeeper$Sha256" "START" "[I" (.ref t) A s s.heap ∧ va_T .int t 8 (fun j => .int (tb_1.getD j 0)) A s s.heap := by
  obtain ⟨t, h1, h2⟩ := va_Tof (tm := (.static "CoinKeeper$Sha256" "START" "[I")) (ty := .int) (N := 8) (f := fun j => .int (tb_1.getD j 0)) (A := A) (by decide) (st_at hg st_a_1) (st_eqi (st_at hg st_l_1)) (fun j hj => st_eqi (st_at hg (st_e_1 j hj))) hA
  exact ⟨t, va_Zref (htl _ mw_717) (htl _ (gw_in _ gw_2)) h1 hA, h2⟩
theorem st_a_2 : (flatC st_c)[185]? = some (.arrayOf (.static "CoinKeeper$Sha256" "K" "[I") .int) := by decide +kernel
theorem st_l_2 : (flatC st_c)[186]? = some (.eq (.length (.static "CoinKeeper$Sha256" "K" "[I")) (.int (Int32.ofNat 64))) := by decide +kernel
set_option maxRecDepth 20000 in
theorem st_e_2 : ∀ j, j < 64 → (flatC st_c)[187 + j]? = some (.eq (.elem (.static "CoinKeeper$Sha256" "K" "[I") (.int (Int32.ofNat j))) (.int (tb_2.getD j 0))) := by decide +kernel
theorem st_s_2 {args : Array Value} {s : State} (htl : ∀ w ∈ lw_tbl, w.before args s = true) (hg : st_c.before args s = true) {A : Nat → Prop} (hA : ∀ a : Nat, a < s.heap.size → ¬ A a) : ∃ t : Nat, va_Z "CoinKeeper$Sha256" "K" "[I" (.ref t) A s s.heap ∧ va_T .int t 64 (fun j => .int (tb_2.getD j 0)) A s s.heap := by
  obtain ⟨t, h1, h2⟩ := va_Tof (tm := (.static "CoinKeeper$Sha256" "K" "[I")) (ty := .int) (N := 64) (f := fun j => .int (tb_2.getD j 0)) (A := A) (by decide) (st_at hg st_a_2) (st_eqi (st_at hg st_l_2)) (fun j hj => st_eqi (st_at hg (st_e_2 j hj))) hA
  exact ⟨t, va_Zref (htl _ mw_729) (htl _ (gw_in _ gw_2)) h1 hA, h2⟩
theorem st_a_3 : (flatC st_c)[252]? = some (.arrayOf (.static "CoinKeeper$Machine" "ALL" "[B") .byte) := by decide +kernel
theorem st_l_3 : (flatC st_c)[253]? = some (.eq (.length (.static "CoinKeeper$Machine" "ALL" "[B")) (.int (Int32.ofNat 4))) := by decide +kernel
set_option maxRecDepth 20000 in
theorem st_e_3 : ∀ j, j < 4 → (flatC st_c)[254 + j]? = some (.eq (.elem (.static "CoinKeeper$Machine" "ALL" "[B") (.int (Int32.ofNat j))) (.int (tb_3.getD j 0))) := by decide +kernel
theorem st_s_3 {args : Array Value} {s : State} (htl : ∀ w ∈ lw_tbl, w.before args s = true) (hg : st_c.before args s = true) {A : Nat → Prop} (hA : ∀ a : Nat, a < s.heap.size → ¬ A a) : ∃ t : Nat, va_Z "CoinKeeper$Machine" "ALL" "[B" (.ref t) A s s.heap ∧ va_T .byte t 4 (fun j => .int (tb_3.getD j 0)) A s s.heap := by
  obtain ⟨t, h1, h2⟩ := va_Tof (tm := (.static "CoinKeeper$Machine" "ALL" "[B")) (ty := .byte) (N := 4) (f := fun j => .int (tb_3.getD j 0)) (A := A) (by decide) (st_at hg st_a_3) (st_eqi (st_at hg st_l_3)) (fun j hj => st_eqi (st_at hg (st_e_3 j hj))) hA
  exact ⟨t, va_Zref (htl _ mw_1032) (htl _ (gw_in _ gw_6)) h1 hA, h2⟩
theorem st_a_4 : (flatC st_c)[259]? = some (.arrayOf (.static "CoinKeeper$Scalar" "ORDER" "[J") .long) := by decide +kernel
theorem st_l_4 : (flatC st_c)[260]? = some (.eq (.length (.static "CoinKeeper$Scalar" "ORDER" "[J")) (.int (Int32.ofNat 5))) := by decide +kernel
set_option maxRecDepth 20000 in
theorem st_e_4 : ∀ j, j < 5 → (flatC st_c)[261 + j]? = some (.eq (.elem (.static "CoinKeeper$Scalar" "ORDER" "[J") (.int (Int32.ofNat j))) (.long (tb_4.getD j 0))) := by decide +kernel
theorem st_s_4 {args : Array Value} {s : State} (htl : ∀ w ∈ lw_tbl, w.before args s = true) (hg : st_c.before args s = true) {A : Nat → Prop} (hA : ∀ a : Nat, a < s.heap.size → ¬ A a) : ∃ t : Nat, va_Z "CoinKeeper$Scalar" "ORDER" "[J" (.ref t) A s s.heap ∧ va_T .long t 5 (fun j => .long (tb_4.getD j 0)) A s s.heap := by
  obtain ⟨t, h1, h2⟩ := va_Tof (tm := (.static "CoinKeeper$Scalar" "ORDER" "[J")) (ty := .long) (N := 5) (f := fun j => .long (tb_4.getD j 0)) (A := A) (by decide) (st_at hg st_a_4) (st_eqi (st_at hg st_l_4)) (fun j hj => st_eql (st_at hg (st_e_4 j hj))) hA
  exact ⟨t, va_Zref (htl _ mw_1056) (htl _ (gw_in _ gw_28)) h1 hA, h2⟩
theorem st_a_5 : (flatC st_c)[267]? = some (.arrayOf (.static "CoinKeeper$Scalar" "PRIME" "[J") .long) := by decide +kernel
theorem st_l_5 : (flatC st_c)[268]? = some (.eq (.length (.static "CoinKeeper$Scalar" "PRIME" "[J")) (.int (Int32.ofNat 5))) := by decide +kernel
set_option maxRecDepth 20000 in
theorem st_e_5 : ∀ j, j < 5 → (flatC st_c)[269 + j]? = some (.eq (.elem (.static "CoinKeeper$Scalar" "PRIME" "[J") (.int (Int32.ofNat j))) (.long (tb_5.getD j 0))) := by decide +kernel
theorem st_s_5 {args : Array Value} {s : State} (htl : ∀ w ∈ lw_tbl, w.before args s = true) (hg : st_c.before args s = true) {A : Nat → Prop} (hA : ∀ a : Nat, a < s.heap.size → ¬ A a) : ∃ t : Nat, va_Z "CoinKeeper$Scalar" "PRIME" "[J" (.ref t) A s s.heap ∧ va_T .long t 5 (fun j => .long (tb_5.getD j 0)) A s s.heap := by
  obtain ⟨t, h1, h2⟩ := va_Tof (tm := (.static "CoinKeeper$Scalar" "PRIME" "[J")) (ty := .long) (N := 5) (f := fun j => .long (tb_5.getD j 0)) (A := A) (by decide) (st_at hg st_a_5) (st_eqi (st_at hg st_l_5)) (fun j hj => st_eql (st_at hg (st_e_5 j hj))) hA
  exact ⟨t, va_Zref (htl _ mw_1070) (htl _ (gw_in _ gw_28)) h1 hA, h2⟩
theorem st_a_6 : (flatC st_c)[275]? = some (.arrayOf (.static "CoinKeeper$Curve" "ROOT_STEPS" "[B") .byte) := by decide +kernel
theorem st_l_6 : (flatC st_c)[276]? = some (.eq (.length (.static "CoinKeeper$Curve" "ROOT_STEPS" "[B")) (.int (Int32.ofNat 52))) := by decide +kernel
set_option maxRecDepth 20000 in
theorem st_e_6 : ∀ j, j < 52 → (flatC st_c)[277 + j]? = some (.eq (.elem (.static "CoinKeeper$Curve" "ROOT_STEPS" "[B") (.int (Int32.ofNat j))) (.int (tb_6.getD j 0))) := by decide +kernel
theorem st_s_6 {args : Array Value} {s : State} (htl : ∀ w ∈ lw_tbl, w.before args s = true) (hg : st_c.before args s = true) {A : Nat → Prop} (hA : ∀ a : Nat, a < s.heap.size → ¬ A a) : ∃ t : Nat, va_Z "CoinKeeper$Curve" "ROOT_STEPS" "[B" (.ref t) A s s.heap ∧ va_T .byte t 52 (fun j => .int (tb_6.getD j 0)) A s s.heap := by
  obtain ⟨t, h1, h2⟩ := va_Tof (tm := (.static "CoinKeeper$Curve" "ROOT_STEPS" "[B")) (ty := .byte) (N := 52) (f := fun j => .int (tb_6.getD j 0)) (A := A) (by decide) (st_at hg st_a_6) (st_eqi (st_at hg st_l_6)) (fun j hj => st_eqi (st_at hg (st_e_6 j hj))) hA
  exact ⟨t, va_Zref (htl _ mw_1092) (htl _ (gw_in _ gw_4)) h1 hA, h2⟩
theorem st_a_7 : (flatC st_c)[330]? = some (.arrayOf (.static "CoinKeeper$Ripemd160" "START" "[I") .int) := by decide +kernel
theorem st_l_7 : (flatC st_c)[331]? = some (.eq (.length (.static "CoinKeeper$Ripemd160" "START" "[I")) (.int (Int32.ofNat 5))) := by decide +kernel
set_option maxRecDepth 20000 in
theorem st_e_7 : ∀ j, j < 5 → (flatC st_c)[332 + j]? = some (.eq (.elem (.static "CoinKeeper$Ripemd160" "START" "[I") (.int (Int32.ofNat j))) (.int (tb_7.getD j 0))) := by decide +kernel
theorem st_s_7 {args : Array Value} {s : State} (htl : ∀ w ∈ lw_tbl, w.before args s = true) (hg : st_c.before args s = true) {A : Nat → Prop} (hA : ∀ a : Nat, a < s.heap.size → ¬ A a) : ∃ t : Nat, va_Z "CoinKeeper$Ripemd160" "START" "[I" (.ref t) A s s.heap ∧ va_T .int t 5 (fun j => .int (tb_7.getD j 0)) A s s.heap := by
  obtain ⟨t, h1, h2⟩ := va_Tof (tm := (.static "CoinKeeper$Ripemd160" "START" "[I")) (ty := .int) (N := 5) (f := fun j => .int (tb_7.getD j 0)) (A := A) (by decide) (st_at hg st_a_7) (st_eqi (st_at hg st_l_7)) (fun j hj => st_eqi (st_at hg (st_e_7 j hj))) hA
  exact ⟨t, va_Zref (htl _ mw_1241) (htl _ (gw_in _ gw_7)) h1 hA, h2⟩
theorem st_a_8 : (flatC st_c)[338]? = some (.arrayOf (.static "CoinKeeper$Ripemd160" "LEFT_WORD" "[B") .byte) := by decide +kernel
theorem st_l_8 : (flatC st_c)[339]? = some (.eq (.length (.static "CoinKeeper$Ripemd160" "LEFT_WORD" "[B")) (.int (Int32.ofNat 80))) := by decide +kernel
set_option maxRecDepth 20000 in
theorem st_e_8 : ∀ j, j < 80 → (flatC st_c)[340 + j]? = some (.eq (.elem (.static "CoinKeeper$Ripemd160" "LEFT_WORD" "[B") (.int (Int32.ofNat j))) (.int (tb_8.getD j 0))) := by decide +kernel
theorem st_s_8 {args : Array Value} {s : State} (htl : ∀ w ∈ lw_tbl, w.before args s = true) (hg : st_c.before args s = true) {A : Nat → Prop} (hA : ∀ a : Nat, a < s.heap.size → ¬ A a) : ∃ t : Nat, va_Z "CoinKeeper$Ripemd160" "LEFT_WORD" "[B" (.ref t) A s s.heap ∧ va_T .byte t 80 (fun j => .int (tb_8.getD j 0)) A s s.heap := by
  obtain ⟨t, h1, h2⟩ := va_Tof (tm := (.static "CoinKeeper$Ripemd160" "LEFT_WORD" "[B")) (ty := .byte) (N := 80) (f := fun j => .int (tb_8.getD j 0)) (A := A) (by decide) (st_at hg st_a_8) (st_eqi (st_at hg st_l_8)) (fun j hj => st_eqi (st_at hg (st_e_8 j hj))) hA
  exact ⟨t, va_Zref (htl _ mw_1248) (htl _ (gw_in _ gw_7)) h1 hA, h2⟩
theorem st_a_9 : (flatC st_c)[421]? = some (.arrayOf (.static "CoinKeeper$Ripemd160" "LEFT_TURN" "[B") .byte) := by decide +kernel
theorem st_l_9 : (flatC st_c)[422]? = some (.eq (.length (.static "CoinKeeper$Ripemd160" "LEFT_TURN" "[B")) (.int (Int32.ofNat 80))) := by decide +kernel
set_option maxRecDepth 20000 in
theorem st_e_9 : ∀ j, j < 80 → (flatC st_c)[423 + j]? = some (.eq (.elem (.static "CoinKeeper$Ripemd160" "LEFT_TURN" "[B") (.int (Int32.ofNat j))) (.int (tb_9.getD j 0))) := by decide +kernel
theorem st_s_9 {args : Array Value} {s : State} (htl : ∀ w ∈ lw_tbl, w.before args s = true) (hg : st_c.before args s = true) {A : Nat → Prop} (hA : ∀ a : Nat, a < s.heap.size → ¬ A a) : ∃ t : Nat, va_Z "CoinKeeper$Ripemd160" "LEFT_TURN" "[B" (.ref t) A s s.heap ∧ va_T .byte t 80 (fun j => .int (tb_9.getD j 0)) A s s.heap := by
  obtain ⟨t, h1, h2⟩ := va_Tof (tm := (.static "CoinKeeper$Ripemd160" "LEFT_TURN" "[B")) (ty := .byte) (N := 80) (f := fun j => .int (tb_9.getD j 0)) (A := A) (by decide) (st_at hg st_a_9) (st_eqi (st_at hg st_l_9)) (fun j hj => st_eqi (st_at hg (st_e_9 j hj))) hA
  exact ⟨t, va_Zref (htl _ mw_1250) (htl _ (gw_in _ gw_7)) h1 hA, h2⟩
theorem st_a_10 : (flatC st_c)[504]? = some (.arrayOf (.static "CoinKeeper$Ripemd160" "LEFT_K" "[I") .int) := by decide +kernel
theorem st_l_10 : (flatC st_c)[505]? = some (.eq (.length (.static "CoinKeeper$Ripemd160" "LEFT_K" "[I")) (.int (Int32.ofNat 5))) := by decide +kernel
set_option maxRecDepth 20000 in
theorem st_e_10 : ∀ j, j < 5 → (flatC st_c)[506 + j]? = some (.eq (.elem (.static "CoinKeeper$Ripemd160" "LEFT_K" "[I") (.int (Int32.ofNat j))) (.int (tb_10.getD j 0))) := by decide +kernel
theorem st_s_10 {args : Array Value} {s : State} (htl : ∀ w ∈ lw_tbl, w.before args s = true) (hg : st_c.before args s = true) {A : Nat → Prop} (hA : ∀ a : Nat, a < s.heap.size → ¬ A a) : ∃ t : Nat, va_Z "CoinKeeper$Ripemd160" "LEFT_K" "[I" (.ref t) A s s.heap ∧ va_T .int t 5 (fun j => .int (tb_10.getD j 0)) A s s.heap := by
  obtain ⟨t, h1, h2⟩ := va_Tof (tm := (.static "CoinKeeper$Ripemd160" "LEFT_K" "[I")) (ty := .int) (N := 5) (f := fun j => .int (tb_10.getD j 0)) (A := A) (by decide) (st_at hg st_a_10) (st_eqi (st_at hg st_l_10)) (fun j hj => st_eqi (st_at hg (st_e_10 j hj))) hA
  exact ⟨t, va_Zref (htl _ mw_1252) (htl _ (gw_in _ gw_7)) h1 hA, h2⟩
theorem st_a_11 : (flatC st_c)[512]? = some (.arrayOf (.static "CoinKeeper$Ripemd160" "RIGHT_WORD" "[B") .byte) := by decide +kernel
theorem st_l_11 : (flatC st_c)[513]? = some (.eq (.length (.static "CoinKeeper$Ripemd160" "RIGHT_WORD" "[B")) (.int (Int32.ofNat 80))) := by decide +kernel
set_option maxRecDepth 20000 in
theorem st_e_11 : ∀ j, j < 80 → (flatC st_c)[514 + j]? = some (.eq (.elem (.static "CoinKeeper$Ripemd160" "RIGHT_WORD" "[B") (.int (Int32.ofNat j))) (.int (tb_11.getD j 0))) := by decide +kernel
theorem st_s_11 {args : Array Value} {s : State} (htl : ∀ w ∈ lw_tbl, w.before args s = true) (hg : st_c.before args s = true) {A : Nat → Prop} (hA : ∀ a : Nat, a < s.heap.size → ¬ A a) : ∃ t : Nat, va_Z "CoinKeeper$Ripemd160" "RIGHT_WORD" "[B" (.ref t) A s s.heap ∧ va_T .byte t 80 (fun j => .int (tb_11.getD j 0)) A s s.heap := by
  obtain ⟨t, h1, h2⟩ := va_Tof (tm := (.static "CoinKeeper$Ripemd160" "RIGHT_WORD" "[B")) (ty := .byte) (N := 80) (f := fun j => .int (tb_11.getD j 0)) (A := A) (by decide) (st_at hg st_a_11) (st_eqi (st_at hg st_l_11)) (fun j hj => st_eqi (st_at hg (st_e_11 j hj))) hA
  exact ⟨t, va_Zref (htl _ mw_1262) (htl _ (gw_in _ gw_7)) h1 hA, h2⟩
theorem st_a_12 : (flatC st_c)[595]? = some (.arrayOf (.static "CoinKeeper$Ripemd160" "RIGHT_TURN" "[B") .byte) := by decide +kernel
theorem st_l_12 : (flatC st_c)[596]? = some (.eq (.length (.static "CoinKeeper$Ripemd160" "RIGHT_TURN" "[B")) (.int (Int32.ofNat 80))) := by decide +kernel
set_option maxRecDepth 20000 in
theorem st_e_12 : ∀ j, j < 80 → (flatC st_c)[597 + j]? = some (.eq (.elem (.static "CoinKeeper$Ripemd160" "RIGHT_TURN" "[B") (.int (Int32.ofNat j))) (.int (tb_12.getD j 0))) := by decide +kernel
theorem st_s_12 {args : Array Value} {s : State} (htl : ∀ w ∈ lw_tbl, w.before args s = true) (hg : st_c.before args s = true) {A : Nat → Prop} (hA : ∀ a : Nat, a < s.heap.size → ¬ A a) : ∃ t : Nat, va_Z "CoinKeeper$Ripemd160" "RIGHT_TURN" "[B" (.ref t) A s s.heap ∧ va_T .byte t 80 (fun j => .int (tb_12.getD j 0)) A s s.heap := by
  obtain ⟨t, h1, h2⟩ := va_Tof (tm := (.static "CoinKeeper$Ripemd160" "RIGHT_TURN" "[B")) (ty := .byte) (N := 80) (f := fun j => .int (tb_12.getD j 0)) (A := A) (by decide) (st_at hg st_a_12) (st_eqi (st_at hg st_l_12)) (fun j hj => st_eqi (st_at hg (st_e_12 j hj))) hA
  exact ⟨t, va_Zref (htl _ mw_1264) (htl _ (gw_in _ gw_7)) h1 hA, h2⟩
theorem st_a_13 : (flatC st_c)[678]? = some (.arrayOf (.static "CoinKeeper$Ripemd160" "RIGHT_K" "[I") .int) := by decide +kernel
theorem st_l_13 : (flatC st_c)[679]? = some (.eq (.length (.static "CoinKeeper$Ripemd160" "RIGHT_K" "[I")) (.int (Int32.ofNat 5))) := by decide +kernel
set_option maxRecDepth 20000 in
theorem st_e_13 : ∀ j, j < 5 → (flatC st_c)[680 + j]? = some (.eq (.elem (.static "CoinKeeper$Ripemd160" "RIGHT_K" "[I") (.int (Int32.ofNat j))) (.int (tb_13.getD j 0))) := by decide +kernel
theorem st_s_13 {args : Array Value} {s : State} (htl : ∀ w ∈ lw_tbl, w.before args s = true) (hg : st_c.before args s = true) {A : Nat → Prop} (hA : ∀ a : Nat, a < s.heap.size → ¬ A a) : ∃ t : Nat, va_Z "CoinKeeper$Ripemd160" "RIGHT_K" "[I" (.ref t) A s s.heap ∧ va_T .int t 5 (fun j => .int (tb_13.getD j 0)) A s s.heap := by
  obtain ⟨t, h1, h2⟩ := va_Tof (tm := (.static "CoinKeeper$Ripemd160" "RIGHT_K" "[I")) (ty := .int) (N := 5) (f := fun j => .int (tb_13.getD j 0)) (A := A) (by decide) (st_at hg st_a_13) (st_eqi (st_at hg st_l_13)) (fun j hj => st_eqi (st_at hg (st_e_13 j hj))) hA
  exact ⟨t, va_Zref (htl _ mw_1266) (htl _ (gw_in _ gw_7)) h1 hA, h2⟩
theorem st_a_14 : (flatC st_c)[686]? = some (.arrayOf (.static "CoinKeeperModel" "START" "[I") .int) := by decide +kernel
theorem st_l_14 : (flatC st_c)[687]? = some (.eq (.length (.static "CoinKeeperModel" "START" "[I")) (.int (Int32.ofNat 8))) := by decide +kernel
set_option maxRecDepth 20000 in
theorem st_e_14 : ∀ j, j < 8 → (flatC st_c)[688 + j]? = some (.eq (.elem (.static "CoinKeeperModel" "START" "[I") (.int (Int32.ofNat j))) (.int (tb_14.getD j 0))) := by decide +kernel
theorem st_s_14 {args : Array Value} {s : State} (htl : ∀ w ∈ lw_tbl, w.before args s = true) (hg : st_c.before args s = true) {A : Nat → Prop} (hA : ∀ a : Nat, a < s.heap.size → ¬ A a) : ∃ t : Nat, va_Z "CoinKeeperModel" "START" "[I" (.ref t) A s s.heap ∧ va_T .int t 8 (fun j => .int (tb_14.getD j 0)) A s s.heap := by
  obtain ⟨t, h1, h2⟩ := va_Tof (tm := (.static "CoinKeeperModel" "START" "[I")) (ty := .int) (N := 8) (f := fun j => .int (tb_14.getD j 0)) (A := A) (by decide) (st_at hg st_a_14) (st_eqi (st_at hg st_l_14)) (fun j hj => st_eqi (st_at hg (st_e_14 j hj))) hA
  exact ⟨t, va_Zref (htl _ mw_1768) (htl _ (gw_in _ gw_18)) h1 hA, h2⟩
theorem st_a_15 : (flatC st_c)[697]? = some (.arrayOf (.static "CoinKeeperModel" "K" "[I") .int) := by decide +kernel
theorem st_l_15 : (flatC st_c)[698]? = some (.eq (.length (.static "CoinKeeperModel" "K" "[I")) (.int (Int32.ofNat 64))) := by decide +kernel
set_option maxRecDepth 20000 in
theorem st_e_15 : ∀ j, j < 64 → (flatC st_c)[699 + j]? = some (.eq (.elem (.static "CoinKeeperModel" "K" "[I") (.int (Int32.ofNat j))) (.int (tb_15.getD j 0))) := by decide +kernel
theorem st_s_15 {args : Array Value} {s : State} (htl : ∀ w ∈ lw_tbl, w.before args s = true) (hg : st_c.before args s = true) {A : Nat → Prop} (hA : ∀ a : Nat, a < s.heap.size → ¬ A a) : ∃ t : Nat, va_Z "CoinKeeperModel" "K" "[I" (.ref t) A s s.heap ∧ va_T .int t 64 (fun j => .int (tb_15.getD j 0)) A s s.heap := by
  obtain ⟨t, h1, h2⟩ := va_Tof (tm := (.static "CoinKeeperModel" "K" "[I")) (ty := .int) (N := 64) (f := fun j => .int (tb_15.getD j 0)) (A := A) (by decide) (st_at hg st_a_15) (st_eqi (st_at hg st_l_15)) (fun j hj => st_eqi (st_at hg (st_e_15 j hj))) hA
  exact ⟨t, va_Zref (htl _ mw_1776) (htl _ (gw_in _ gw_18)) h1 hA, h2⟩
theorem st_a_16 : (flatC st_c)[764]? = some (.arrayOf (.static "CoinKeeperModel" "RL" "[I") .int) := by decide +kernel
theorem st_l_16 : (flatC st_c)[765]? = some (.eq (.length (.static "CoinKeeperModel" "RL" "[I")) (.int (Int32.ofNat 80))) := by decide +kernel
set_option maxRecDepth 20000 in
theorem st_e_16 : ∀ j, j < 80 → (flatC st_c)[766 + j]? = some (.eq (.elem (.static "CoinKeeperModel" "RL" "[I") (.int (Int32.ofNat j))) (.int (tb_16.getD j 0))) := by decide +kernel
theorem st_s_16 {args : Array Value} {s : State} (htl : ∀ w ∈ lw_tbl, w.before args s = true) (hg : st_c.before args s = true) {A : Nat → Prop} (hA : ∀ a : Nat, a < s.heap.size → ¬ A a) : ∃ t : Nat, va_Z "CoinKeeperModel" "RL" "[I" (.ref t) A s s.heap ∧ va_T .int t 80 (fun j => .int (tb_16.getD j 0)) A s s.heap := by
  obtain ⟨t, h1, h2⟩ := va_Tof (tm := (.static "CoinKeeperModel" "RL" "[I")) (ty := .int) (N := 80) (f := fun j => .int (tb_16.getD j 0)) (A := A) (by decide) (st_at hg st_a_16) (st_eqi (st_at hg st_l_16)) (fun j hj => st_eqi (st_at hg (st_e_16 j hj))) hA
  exact ⟨t, va_Zref (htl _ mw_1940) (htl _ (gw_in _ gw_18)) h1 hA, h2⟩
theorem st_a_17 : (flatC st_c)[847]? = some (.arrayOf (.static "CoinKeeperModel" "KL" "[I") .int) := by decide +kernel
theorem st_l_17 : (flatC st_c)[848]? = some (.eq (.length (.static "CoinKeeperModel" "KL" "[I")) (.int (Int32.ofNat 5))) := by decide +kernel
set_option maxRecDepth 20000 in
theorem st_e_17 : ∀ j, j < 5 → (flatC st_c)[849 + j]? = some (.eq (.elem (.static "CoinKeeperModel" "KL" "[I") (.int (Int32.ofNat j))) (.int (tb_17.getD j 0))) := by decide +kernel
theorem st_s_17 {args : Array Value} {s : State} (htl : ∀ w ∈ lw_tbl, w.before args s = true) (hg : st_c.before args s = true) {A : Nat → Prop} (hA : ∀ a : Nat, a < s.heap.size → ¬ A a) : ∃ t : Nat, va_Z "CoinKeeperModel" "KL" "[I" (.ref t) A s s.heap ∧ va_T .int t 5 (fun j => .int (tb_17.getD j 0)) A s s.heap := by
  obtain ⟨t, h1, h2⟩ := va_Tof (tm := (.static "CoinKeeperModel" "KL" "[I")) (ty := .int) (N := 5) (f := fun j => .int (tb_17.getD j 0)) (A := A) (by decide) (st_at hg st_a_17) (st_eqi (st_at hg st_l_17)) (fun j hj => st_eqi (st_at hg (st_e_17 j hj))) hA
  exact ⟨t, va_Zref (htl _ mw_1942) (htl _ (gw_in _ gw_18)) h1 hA, h2⟩
theorem st_a_18 : (flatC st_c)[855]? = some (.arrayOf (.static "CoinKeeperModel" "SL" "[I") .int) := by decide +kernel
theorem st_l_18 : (flatC st_c)[856]? = some (.eq (.length (.static "CoinKeeperModel" "SL" "[I")) (.int (Int32.ofNat 80))) := by decide +kernel
set_option maxRecDepth 20000 in
theorem st_e_18 : ∀ j, j < 80 → (flatC st_c)[857 + j]? = some (.eq (.elem (.static "CoinKeeperModel" "SL" "[I") (.int (Int32.ofNat j))) (.int (tb_18.getD j 0))) := by decide +kernel
theorem st_s_18 {args : Array Value} {s : State} (htl : ∀ w ∈ lw_tbl, w.before args s = true) (hg : st_c.before args s = true) {A : Nat → Prop} (hA : ∀ a : Nat, a < s.heap.size → ¬ A a) : ∃ t : Nat, va_Z "CoinKeeperModel" "SL" "[I" (.ref t) A s s.heap ∧ va_T .int t 80 (fun j => .int (tb_18.getD j 0)) A s s.heap := by
  obtain ⟨t, h1, h2⟩ := va_Tof (tm := (.static "CoinKeeperModel" "SL" "[I")) (ty := .int) (N := 80) (f := fun j => .int (tb_18.getD j 0)) (A := A) (by decide) (st_at hg st_a_18) (st_eqi (st_at hg st_l_18)) (fun j hj => st_eqi (st_at hg (st_e_18 j hj))) hA
  exact ⟨t, va_Zref (htl _ mw_1944) (htl _ (gw_in _ gw_18)) h1 hA, h2⟩
theorem st_a_19 : (flatC st_c)[938]? = some (.arrayOf (.static "CoinKeeperModel" "RR" "[I") .int) := by decide +kernel
theorem st_l_19 : (flatC st_c)[939]? = some (.eq (.length (.static "CoinKeeperModel" "RR" "[I")) (.int (Int32.ofNat 80))) := by decide +kernel
set_option maxRecDepth 20000 in
theorem st_e_19 : ∀ j, j < 80 → (flatC st_c)[940 + j]? = some (.eq (.elem (.static "CoinKeeperModel" "RR" "[I") (.int (Int32.ofNat j))) (.int (tb_19.getD j 0))) := by decide +kernel
theorem st_s_19 {args : Array Value} {s : State} (htl : ∀ w ∈ lw_tbl, w.before args s = true) (hg : st_c.before args s = true) {A : Nat → Prop} (hA : ∀ a : Nat, a < s.heap.size → ¬ A a) : ∃ t : Nat, va_Z "CoinKeeperModel" "RR" "[I" (.ref t) A s s.heap ∧ va_T .int t 80 (fun j => .int (tb_19.getD j 0)) A s s.heap := by
  obtain ⟨t, h1, h2⟩ := va_Tof (tm := (.static "CoinKeeperModel" "RR" "[I")) (ty := .int) (N := 80) (f := fun j => .int (tb_19.getD j 0)) (A := A) (by decide) (st_at hg st_a_19) (st_eqi (st_at hg st_l_19)) (fun j hj => st_eqi (st_at hg (st_e_19 j hj))) hA
  exact ⟨t, va_Zref (htl _ mw_1946) (htl _ (gw_in _ gw_18)) h1 hA, h2⟩
theorem st_a_20 : (flatC st_c)[1021]? = some (.arrayOf (.static "CoinKeeperModel" "KR" "[I") .int) := by decide +kernel
theorem st_l_20 : (flatC st_c)[1022]? = some (.eq (.length (.static "CoinKeeperModel" "KR" "[I")) (.int (Int32.ofNat 5))) := by decide +kernel
set_option maxRecDepth 20000 in
theorem st_e_20 : ∀ j, j < 5 → (flatC st_c)[1023 + j]? = some (.eq (.elem (.static "CoinKeeperModel" "KR" "[I") (.int (Int32.ofNat j))) (.int (tb_20.getD j 0))) := by decide +kernel
theorem st_s_20 {args : Array Value} {s : State} (htl : ∀ w ∈ lw_tbl, w.before args s = true) (hg : st_c.before args s = true) {A : Nat → Prop} (hA : ∀ a : Nat, a < s.heap.size → ¬ A a) : ∃ t : Nat, va_Z "CoinKeeperModel" "KR" "[I" (.ref t) A s s.heap ∧ va_T .int t 5 (fun j => .int (tb_20.getD j 0)) A s s.heap := by
  obtain ⟨t, h1, h2⟩ := va_Tof (tm := (.static "CoinKeeperModel" "KR" "[I")) (ty := .int) (N := 5) (f := fun j => .int (tb_20.getD j 0)) (A := A) (by decide) (st_at hg st_a_20) (st_eqi (st_at hg st_l_20)) (fun j hj => st_eqi (st_at hg (st_e_20 j hj))) hA
  exact ⟨t, va_Zref (htl _ mw_1948) (htl _ (gw_in _ gw_18)) h1 hA, h2⟩
theorem st_a_21 : (flatC st_c)[1029]? = some (.arrayOf (.static "CoinKeeperModel" "SR" "[I") .int) := by decide +kernel
theorem st_l_21 : (flatC st_c)[1030]? = some (.eq (.length (.static "CoinKeeperModel" "SR" "[I")) (.int (Int32.ofNat 80))) := by decide +kernel
set_option maxRecDepth 20000 in
theorem st_e_21 : ∀ j, j < 80 → (flatC st_c)[1031 + j]? = some (.eq (.elem (.static "CoinKeeperModel" "SR" "[I") (.int (Int32.ofNat j))) (.int (tb_21.getD j 0))) := by decide +kernel
theorem st_s_21 {args : Array Value} {s : State} (htl : ∀ w ∈ lw_tbl, w.before args s = true) (hg : st_c.before args s = true) {A : Nat → Prop} (hA : ∀ a : Nat, a < s.heap.size → ¬ A a) : ∃ t : Nat, va_Z "CoinKeeperModel" "SR" "[I" (.ref t) A s s.heap ∧ va_T .int t 80 (fun j => .int (tb_21.getD j 0)) A s s.heap := by
  obtain ⟨t, h1, h2⟩ := va_Tof (tm := (.static "CoinKeeperModel" "SR" "[I")) (ty := .int) (N := 80) (f := fun j => .int (tb_21.getD j 0)) (A := A) (by decide) (st_at hg st_a_21) (st_eqi (st_at hg st_l_21)) (fun j hj => st_eqi (st_at hg (st_e_21 j hj))) hA
  exact ⟨t, va_Zref (htl _ mw_1950) (htl _ (gw_in _ gw_18)) h1 hA, h2⟩
theorem st_a_22 : (flatC st_c)[1112]? = some (.arrayOf (.static "CoinKeeperModel" "P" "[I") .int) := by decide +kernel
theorem st_l_22 : (flatC st_c)[1113]? = some (.eq (.length (.static "CoinKeeperModel" "P" "[I")) (.int (Int32.ofNat 8))) := by decide +kernel
set_option maxRecDepth 20000 in
theorem st_e_22 : ∀ j, j < 8 → (flatC st_c)[1114 + j]? = some (.eq (.elem (.static "CoinKeeperModel" "P" "[I") (.int (Int32.ofNat j))) (.int (tb_22.getD j 0))) := by decide +kernel
theorem st_s_22 {args : Array Value} {s : State} (htl : ∀ w ∈ lw_tbl, w.before args s = true) (hg : st_c.before args s = true) {A : Nat → Prop} (hA : ∀ a : Nat, a < s.heap.size → ¬ A a) : ∃ t : Nat, va_Z "CoinKeeperModel" "P" "[I" (.ref t) A s s.heap ∧ va_T .int t 8 (fun j => .int (tb_22.getD j 0)) A s s.heap := by
  obtain ⟨t, h1, h2⟩ := va_Tof (tm := (.static "CoinKeeperModel" "P" "[I")) (ty := .int) (N := 8) (f := fun j => .int (tb_22.getD j 0)) (A := A) (by decide) (st_at hg st_a_22) (st_eqi (st_at hg st_l_22)) (fun j hj => st_eqi (st_at hg (st_e_22 j hj))) hA
  exact ⟨t, va_Zref (htl _ mw_1975) (htl _ (gw_in _ gw_18)) h1 hA, h2⟩
theorem st_a_23 : (flatC st_c)[1123]? = some (.arrayOf (.static "CoinKeeperModel" "N" "[I") .int) := by decide +kernel
theorem st_l_23 : (flatC st_c)[1124]? = some (.eq (.length (.static "CoinKeeperModel" "N" "[I")) (.int (Int32.ofNat 8))) := by decide +kernel
set_option maxRecDepth 20000 in
theorem st_e_23 : ∀ j, j < 8 → (flatC st_c)[1125 + j]? = some (.eq (.elem (.static "CoinKeeperModel" "N" "[I") (.int (Int32.ofNat j))) (.int (tb_23.getD j 0))) := by decide +kernel
theorem st_s_23 {args : Array Value} {s : State} (htl : ∀ w ∈ lw_tbl, w.before args s = true) (hg : st_c.before args s = true) {A : Nat → Prop} (hA : ∀ a : Nat, a < s.heap.size → ¬ A a) : ∃ t : Nat, va_Z "CoinKeeperModel" "N" "[I" (.ref t) A s s.heap ∧ va_T .int t 8 (fun j => .int (tb_23.getD j 0)) A s s.heap := by
  obtain ⟨t, h1, h2⟩ := va_Tof (tm := (.static "CoinKeeperModel" "N" "[I")) (ty := .int) (N := 8) (f := fun j => .int (tb_23.getD j 0)) (A := A) (by decide) (st_at hg st_a_23) (st_eqi (st_at hg st_l_23)) (fun j hj => st_eqi (st_at hg (st_e_23 j hj))) hA
  exact ⟨t, va_Zref (htl _ mw_2004) (htl _ (gw_in _ gw_18)) h1 hA, h2⟩
theorem st_a_24 : (flatC st_c)[1134]? = some (.arrayOf (.static "CoinKeeperModel" "GX" "[I") .int) := by decide +kernel
theorem st_l_24 : (flatC st_c)[1135]? = some (.eq (.length (.static "CoinKeeperModel" "GX" "[I")) (.int (Int32.ofNat 8))) := by decide +kernel
set_option maxRecDepth 20000 in
theorem st_e_24 : ∀ j, j < 8 → (flatC st_c)[1136 + j]? = some (.eq (.elem (.static "CoinKeeperModel" "GX" "[I") (.int (Int32.ofNat j))) (.int (tb_24.getD j 0))) := by decide +kernel
theorem st_s_24 {args : Array Value} {s : State} (htl : ∀ w ∈ lw_tbl, w.before args s = true) (hg : st_c.before args s = true) {A : Nat → Prop} (hA : ∀ a : Nat, a < s.heap.size → ¬ A a) : ∃ t : Nat, va_Z "CoinKeeperModel" "GX" "[I" (.ref t) A s s.heap ∧ va_T .int t 8 (fun j => .int (tb_24.getD j 0)) A s s.heap := by
  obtain ⟨t, h1, h2⟩ := va_Tof (tm := (.static "CoinKeeperModel" "GX" "[I")) (ty := .int) (N := 8) (f := fun j => .int (tb_24.getD j 0)) (A := A) (by decide) (st_at hg st_a_24) (st_eqi (st_at hg st_l_24)) (fun j hj => st_eqi (st_at hg (st_e_24 j hj))) hA
  exact ⟨t, va_Zref (htl _ mw_2017) (htl _ (gw_in _ gw_18)) h1 hA, h2⟩
theorem st_a_25 : (flatC st_c)[1145]? = some (.arrayOf (.static "CoinKeeperModel" "GY" "[I") .int) := by decide +kernel
theorem st_l_25 : (flatC st_c)[1146]? = some (.eq (.length (.static "CoinKeeperModel" "GY" "[I")) (.int (Int32.ofNat 8))) := by decide +kernel
set_option maxRecDepth 20000 in
theorem st_e_25 : ∀ j, j < 8 → (flatC st_c)[1147 + j]? = some (.eq (.elem (.static "CoinKeeperModel" "GY" "[I") (.int (Int32.ofNat j))) (.int (tb_25.getD j 0))) := by decide +kernel
theorem st_s_25 {args : Array Value} {s : State} (htl : ∀ w ∈ lw_tbl, w.before args s = true) (hg : st_c.before args s = true) {A : Nat → Prop} (hA : ∀ a : Nat, a < s.heap.size → ¬ A a) : ∃ t : Nat, va_Z "CoinKeeperModel" "GY" "[I" (.ref t) A s s.heap ∧ va_T .int t 8 (fun j => .int (tb_25.getD j 0)) A s s.heap := by
  obtain ⟨t, h1, h2⟩ := va_Tof (tm := (.static "CoinKeeperModel" "GY" "[I")) (ty := .int) (N := 8) (f := fun j => .int (tb_25.getD j 0)) (A := A) (by decide) (st_at hg st_a_25) (st_eqi (st_at hg st_l_25)) (fun j hj => st_eqi (st_at hg (st_e_25 j hj))) hA
  exact ⟨t, va_Zref (htl _ mw_2019) (htl _ (gw_in _ gw_18)) h1 hA, h2⟩
theorem st_a_26 : (flatC st_c)[168]? = some (.arrayOf (.static "java/util/ArrayList" "DEFAULTCAPACITY_EMPTY_ELEMENTDATA" "[Ljava/lang/Object;") (.object "java/lang/Object")) := by decide +kernel
theorem st_l_26 : (flatC st_c)[170]? = some (.eq (.length (.static "java/util/ArrayList" "DEFAULTCAPACITY_EMPTY_ELEMENTDATA" "[Ljava/lang/Object;")) (.int (Int32.ofNat 0))) := by decide +kernel
theorem st_s_26 {args : Array Value} {s : State} (htl : ∀ w ∈ lw_tbl, w.before args s = true) (hg : st_c.before args s = true) {A : Nat → Prop} (hA : ∀ a : Nat, a < s.heap.size → ¬ A a) : ∃ t : Nat, va_Z "java/util/ArrayList" "DEFAULTCAPACITY_EMPTY_ELEMENTDATA" "[Ljava/lang/Object;" (.ref t) A s s.heap ∧ va_T (.object "java/lang/Object") t 0 (fun _ => .null) A s s.heap := by
  obtain ⟨t, h1, h2⟩ := va_Tof (tm := (.static "java/util/ArrayList" "DEFAULTCAPACITY_EMPTY_ELEMENTDATA" "[Ljava/lang/Object;")) (ty := (.object "java/lang/Object")) (N := 0) (f := fun _ => .null) (A := A) (by decide) (st_at hg st_a_26) (st_eqi (st_at hg st_l_26)) (fun j hj => absurd hj (Nat.not_lt_zero j)) hA
  exact ⟨t, va_Zref (htl _ mw_350) (htl _ (gw_in _ gw_12)) h1 hA, h2⟩
theorem st_r_u : (flatC st_c)[171]? = some (.isRef (.static "java/lang/Throwable" "UNASSIGNED_STACK" "[Ljava/lang/StackTraceElement;")) := by decide +kernel
theorem st_r_v : (flatC st_c)[172]? = some (.isRef (.static "java/lang/Throwable" "SUPPRESSED_SENTINEL" "Ljava/util/List;")) := by decide +kernel
theorem st_start {args : Array Value} {s : State} (htl : ∀ w ∈ lw_tbl, w.before args s = true) (hg : st_c.before args s = true) : ∃ (D : va_G) (cy : Nat → ClassId) (ad : Nat → Nat), va_K D classes (tyl cy) s ∧ St ad (fun q => s.heap.size ≤ q) s s.heap ∧ Th (fun q => s.heap.size ≤ q) s s.heap := by
  have hts : ∀ w ∈ gw, w.before args s = true := fun w h => htl w (gw_in w h)
  have hA : ∀ a : Nat, a < s.heap.size → ¬ (fun q => s.heap.size ≤ q) a := fun a h => Nat.not_le.mpr h
  obtain ⟨c0, f0, k0⟩ := u_known (C := "CoinKeeper") (T := F_0) (N := 13) (n := 13) hts i_0 (hts _ gw_31)
  obtain ⟨c1, f1, k1⟩ := u_known (C := "CoinKeeper$Block") (T := F_1) (N := 12) (n := 12) hts i_1 (hts _ gw_375)
  obtain ⟨c2, f2, k2⟩ := u_known (C := "CoinKeeper$Coin") (T := F_2) (N := 10) (n := 10) hts i_2 (hts _ gw_843)
  obtain ⟨c3, f3, k3⟩ := u_known (C := "CoinKeeper$Curve") (T := F_3) (N := 7) (n := 7) hts i_3 (hts _ gw_69)
  obtain ⟨c4, f4, k4⟩ := u_known (C := "CoinKeeper$Layout") (T := F_4) (N := 15) (n := 15) hts i_4 (hts _ gw_264)
  obtain ⟨c5, f5, k5⟩ := u_known (C := "CoinKeeper$Ledger") (T := F_5) (N := 2) (n := 2) hts i_5 (hts _ gw_332)
  obtain ⟨c6, f6, k6⟩ := u_known (C := "CoinKeeper$Machine") (T := F_6) (N := 19) (n := 19) hts i_6 (hts _ gw_180)
  obtain ⟨c7, f7, k7⟩ := u_known (C := "CoinKeeper$Point") (T := F_7) (N := 5) (n := 5) hts i_7 (hts _ gw_102)
  obtain ⟨c8, f8, k8⟩ := u_known (C := "CoinKeeper$Ripemd160") (T := F_8) (N := 4) (n := 4) hts i_8 (hts _ gw_186)
  obtain ⟨c9, f9, k9⟩ := u_known (C := "CoinKeeper$Sha256") (T := F_9) (N := 5) (n := 5) hts i_9 (hts _ gw_39)
  obtain ⟨c10, f10, k10⟩ := u_known (C := "CoinKeeper$Signatures") (T := F_10) (N := 13) (n := 13) hts i_10 (hts _ gw_63)
  obtain ⟨c11, f11, k11⟩ := u_known (C := "java/util/ArrayList") (T := F_11) (N := 3) (n := 3) hts i_11 (hts _ gw_338)
  obtain ⟨c12, f12, k12⟩ := u_known (C := "CoinKeeperModel") (T := F_12) (N := 98) (n := 98) hts i_12 (hts _ gw_1357)
  obtain ⟨y0, p0, q0⟩ := st_arr (hts _ gw_60)
  obtain ⟨y1, p1, q1⟩ := st_arr (hts _ gw_61)
  obtain ⟨y2, p2, q2⟩ := st_arr (hts _ gw_98)
  obtain ⟨y3, p3, q3⟩ := st_arr (hts _ gw_262)
  obtain ⟨comp5, y5, k5a, z1, z2, z3, z4⟩ := ml_over (htl _ mw_75)
  obtain ⟨y4, p4, q4⟩ := st_obj (htl _ mw_101)
  obtain ⟨y6, p6, q6⟩ := st_obj (htl _ mw_373)
  obtain ⟨y7, p7, q7⟩ := st_obj (htl _ mw_490)
  obtain ⟨t0, s0, r0⟩ := st_s_0 htl hg hA
  obtain ⟨t1, s1, r1⟩ := st_s_1 htl hg hA
  obtain ⟨t2, s2, r2⟩ := st_s_2 htl hg hA
  obtain ⟨t3, s3, r3⟩ := st_s_3 htl hg hA
  obtain ⟨t4, s4, r4⟩ := st_s_4 htl hg hA
  obtain ⟨t5, s5, r5⟩ := st_s_5 htl hg hA
  obtain ⟨t6, s6, r6⟩ := st_s_6 htl hg hA
  obtain ⟨t7, s7, r7⟩ := st_s_7 htl hg hA
  obtain ⟨t8, s8, r8⟩ := st_s_8 htl hg hA
  obtain ⟨t9, s9, r9⟩ := st_s_9 htl hg hA
  obtain ⟨t10, s10, r10⟩ := st_s_10 htl hg hA
  obtain ⟨t11, s11, r11⟩ := st_s_11 htl hg hA
  obtain ⟨t12, s12, r12⟩ := st_s_12 htl hg hA
  obtain ⟨t13, s13, r13⟩ := st_s_13 htl hg hA
  obtain ⟨t14, s14, r14⟩ := st_s_14 htl hg hA
  obtain ⟨t15, s15, r15⟩ := st_s_15 htl hg hA
  obtain ⟨t16, s16, r16⟩ := st_s_16 htl hg hA
  obtain ⟨t17, s17, r17⟩ := st_s_17 htl hg hA
  obtain ⟨t18, s18, r18⟩ := st_s_18 htl hg hA
  obtain ⟨t19, s19, r19⟩ := st_s_19 htl hg hA
  obtain ⟨t20, s20, r20⟩ := st_s_20 htl hg hA
  obtain ⟨t21, s21, r21⟩ := st_s_21 htl hg hA
  obtain ⟨t22, s22, r22⟩ := st_s_22 htl hg hA
  obtain ⟨t23, s23, r23⟩ := st_s_23 htl hg hA
  obtain ⟨t24, s24, r24⟩ := st_s_24 htl hg hA
  obtain ⟨t25, s25, r25⟩ := st_s_25 htl hg hA
  obtain ⟨t26, s26, r26⟩ := st_s_26 htl hg hA
  refine ⟨(fun k => ([c0, c1, c2, c3, c4, c5, c6, c7, c8, c9, c10, c11, c12] : List ClassId).getD k 0, fun k => ([f0, f1, f2, f3, f4, f5, f6, f7, f8, f9, f10, f11, f12] : List (Nat → Nat)).getD k (fun _ => 0)), fun k => ([y0, y1, y2, y3, y4, y5, y6, y7] : List ClassId).getD k 0, fun k => ([t0, t1, t2, t3, t4, t5, t6, t7, t8, t9, t10, t11, t12, t13, t14, t15, t16, t17, t18, t19, t20, t21, t22, t23, t24, t25, t26] : List Nat).getD k 0, ⟨?_, ?_⟩, ⟨?_, ?_, ?_, ?_, ?_⟩, ?_, ?_⟩
  · intro k q hq
    match k, hq with
    | 0, hq => cases hq; exact k0
    | 1, hq => cases hq; exact k1
    | 2, hq => cases hq; exact k2
    | 3, hq => cases hq; exact k3
    | 4, hq => cases hq; exact k4
    | 5, hq => cases hq; exact k5
    | 6, hq => cases hq; exact k6
    | 7, hq => cases hq; exact k7
    | 8, hq => cases hq; exact k8
    | 9, hq => cases hq; exact k9
    | 10, hq => cases hq; exact k10
    | 11, hq => cases hq; exact k11
    | 12, hq => cases hq; exact k12
    | k + 13, hq => exact absurd hq (by simp)
  · intro k q hq
    match k, hq with
    | 0, hq => cases hq; exact ⟨p0, q0⟩
    | 1, hq => cases hq; exact ⟨p1, q1⟩
    | 2, hq => cases hq; exact ⟨p2, q2⟩
    | 3, hq => cases hq; exact ⟨p3, q3⟩
    | 4, hq => cases hq; exact ⟨p4, q4⟩
    | 5, hq => cases hq; exact ⟨fun n z => ⟨fun k hk => (by cases hk), k5a, z2, comp5, z3⟩, z4⟩
    | 6, hq => cases hq; exact ⟨p6, q6⟩
    | 7, hq => cases hq; exact ⟨p7, q7⟩
    | k + 8, hq => exact absurd hq (by simp)
  · intro k q hq
    match k, hq with
    | 0, hq => cases hq; exact ⟨s0, r0⟩
    | 1, hq => cases hq; exact ⟨s1, r1⟩
    | 2, hq => cases hq; exact ⟨s2, r2⟩
    | 3, hq => cases hq; exact ⟨s3, r3⟩
    | 4, hq => cases hq; exact ⟨s4, r4⟩
    | 5, hq => cases hq; exact ⟨s5, r5⟩
    | 6, hq => cases hq; exact ⟨s6, r6⟩
    | 7, hq => cases hq; exact ⟨s7, r7⟩
    | 8, hq => cases hq; exact ⟨s8, r8⟩
    | 9, hq => cases hq; exact ⟨s9, r9⟩
    | 10, hq => cases hq; exact ⟨s10, r10⟩
    | 11, hq => cases hq; exact ⟨s11, r11⟩
    | 12, hq => cases hq; exact ⟨s12, r12⟩
    | 13, hq => cases hq; exact ⟨s13, r13⟩
    | 14, hq => cases hq; exact ⟨s14, r14⟩
    | 15, hq => cases hq; exact ⟨s15, r15⟩
    | 16, hq => cases hq; exact ⟨s16, r16⟩
    | 17, hq => cases hq; exact ⟨s17, r17⟩
    | 18, hq => cases hq; exact ⟨s18, r18⟩
    | 19, hq => cases hq; exact ⟨s19, r19⟩
    | 20, hq => cases hq; exact ⟨s20, r20⟩
    | 21, hq => cases hq; exact ⟨s21, r21⟩
    | 22, hq => cases hq; exact ⟨s22, r22⟩
    | 23, hq => cases hq; exact ⟨s23, r23⟩
    | 24, hq => cases hq; exact ⟨s24, r24⟩
    | 25, hq => cases hq; exact ⟨s25, r25⟩
    | 26, hq => cases hq; exact ⟨s26, r26⟩
    | k + 27, hq => exact absurd hq (by simp [sk])
  · exact fun w h => va_Nw.of (okN_tab (List.all_eq_true.mp nw_ok w h)) (htl w (nw_in w h))
  · exact va_Zqof (htl _ mw_603) (hts _ gw_20) (st_at hg st_r_u) hA
  · exact va_Zqof (htl _ mw_605) (hts _ gw_20) (st_at hg st_r_v) hA
  · exact fmc (htl _ mw_75) (fmc (htl _ mw_101) (fmc (htl _ mw_373) (fmc (htl _ mw_490) (fun _ h => nomatch h))))
  · exact va_L.of (htl _ mw_603) (st_at hg st_r_u) hA
  · exact va_L.of (htl _ mw_605) (st_at hg st_r_v) hA
