def gw : List Cond := lw_tbl.filter goodWord
theorem gw_good : GoodIn gw gw := fun w h => ⟨h, good_of_word (List.mem_filter.mp h).2⟩
theorem gw_of {w : Cond} (h : w ∈ lw_tbl) (g : goodWord w = true) : w ∈ gw := List.mem_filter.mpr ⟨h, g⟩
theorem gw_in : ∀ w ∈ gw, w ∈ lw_tbl := fun w h => (List.mem_filter.mp h).1
theorem mt_1 : ∀ w ∈ tables_1_1, w ∈ lw_tbl := fun w h => List.mem_append_right _ (List.mem_append_left _ h)
theorem mt_2 : ∀ w ∈ tables_1_2, w ∈ lw_tbl := fun w h => List.mem_append_right _ (List.mem_append_right _ (List.mem_append_left _ h))
theorem mt_3 : ∀ w ∈ tables_1_3, w ∈ lw_tbl := fun w h => List.mem_append_right _ (List.mem_append_right _ (List.mem_append_right _ (List.mem_append_left _ h)))
theorem mt_4 : ∀ w ∈ tables_1_4, w ∈ lw_tbl := fun w h => List.mem_append_right _ (List.mem_append_right _ (List.mem_append_right _ (List.mem_append_right _ (List.mem_append_left _ h))))
theorem mt_5 : ∀ w ∈ tables_1_5, w ∈ lw_tbl := fun w h => List.mem_append_right _ (List.mem_append_right _ (List.mem_append_right _ (List.mem_append_right _ (List.mem_append_right _ (List.mem_append_left _ h)))))
theorem mt_6 : ∀ w ∈ tables_1_6, w ∈ lw_tbl := fun w h => List.mem_append_right _ (List.mem_append_right _ (List.mem_append_right _ (List.mem_append_right _ (List.mem_append_right _ (List.mem_append_right _ (List.mem_append_left _ h))))))
theorem mt_7 : ∀ w ∈ tables_1_7, w ∈ lw_tbl := fun w h => List.mem_append_right _ (List.mem_append_right _ (List.mem_append_right _ (List.mem_append_right _ (List.mem_append_right _ (List.mem_append_right _ (List.mem_append_right _ (List.mem_append_left _ h)))))))
theorem mt_8 : ∀ w ∈ tables_1_8, w ∈ lw_tbl := fun w h => List.mem_append_right _ (List.mem_append_right _ (List.mem_append_right _ (List.mem_append_right _ (List.mem_append_right _ (List.mem_append_right _ (List.mem_append_right _ (List.mem_append_right _ (List.mem_append_left _ h))))))))
theorem mt_9 : ∀ w ∈ tables_1_9, w ∈ lw_tbl := fun w h => List.mem_append_right _ (List.mem_append_right _ (List.mem_append_right _ (List.mem_append_right _ (List.mem_append_right _ (List.mem_append_right _ (List.mem_append_right _ (List.mem_append_right _ (List.mem_append_right _ (h)))))))))
theorem gw_0 : Jvm.Cond.initialized "CoinKeeperLaw" ∈ gw := gw_of (mt_1 _ (List.mem_of_getElem? (i := 0) rfl)) rfl
theorem gw_1 : Jvm.Cond.initialized "CoinKeeper" ∈ gw := gw_of (mt_1 _ (List.mem_of_getElem? (i := 1) rfl)) rfl
theorem gw_2 : Jvm.Cond.initialized "CoinKeeper$Sha256" ∈ gw := gw_of (mt_1 _ (List.mem_of_getElem? (i := 2) rfl)) rfl
theorem gw_3 : Jvm.Cond.initialized "CoinKeeper$Signatures" ∈ gw := gw_of (mt_1 _ (List.mem_of_getElem? (i := 3) rfl)) rfl
theorem gw_4 : Jvm.Cond.initialized "CoinKeeper$Curve" ∈ gw := gw_of (mt_1 _ (List.mem_of_getElem? (i := 4) rfl)) rfl
theorem gw_5 : Jvm.Cond.initialized "CoinKeeper$Point" ∈ gw := gw_of (mt_1 _ (List.mem_of_getElem? (i := 5) rfl)) rfl
theorem gw_6 : Jvm.Cond.initialized "CoinKeeper$Machine" ∈ gw := gw_of (mt_1 _ (List.mem_of_getElem? (i := 6) rfl)) rfl
theorem gw_7 : Jvm.Cond.initialized "CoinKeeper$Ripemd160" ∈ gw := gw_of (mt_1 _ (List.mem_of_getElem? (i := 7) rfl)) rfl
theorem gw_8 : Jvm.Cond.initialized "CoinKeeper$Layout" ∈ gw := gw_of (mt_1 _ (List.mem_of_getElem? (i := 8) rfl)) rfl
theorem gw_9 : Jvm.Cond.initialized "CoinKeeper$Ledger" ∈ gw := gw_of (mt_1 _ (List.mem_of_getElem? (i := 9) rfl)) rfl
theorem gw_10 : Jvm.Cond.initialized "java/util/AbstractCollection" ∈ gw := gw_of (mt_1 _ (List.mem_of_getElem? (i := 10) rfl)) rfl
theorem gw_11 : Jvm.Cond.initialized "java/util/AbstractList" ∈ gw := gw_of (mt_1 _ (List.mem_of_getElem? (i := 11) rfl)) rfl
theorem gw_12 : Jvm.Cond.initialized "java/util/ArrayList" ∈ gw := gw_of (mt_1 _ (List.mem_of_getElem? (i := 12) rfl)) rfl
theorem gw_13 : Jvm.Cond.initialized "CoinKeeper$Block" ∈ gw := gw_of (mt_1 _ (List.mem_of_getElem? (i := 13) rfl)) rfl
theorem gw_14 : Jvm.Cond.initialized "jdk/internal/util/ArraysSupport" ∈ gw := gw_of (mt_1 _ (List.mem_of_getElem? (i := 14) rfl)) rfl
theorem gw_15 : Jvm.Cond.initialized "java/lang/Math" ∈ gw := gw_of (mt_1 _ (List.mem_of_getElem? (i := 15) rfl)) rfl
theorem gw_16 : Jvm.Cond.initialized "java/util/Arrays" ∈ gw := gw_of (mt_1 _ (List.mem_of_getElem? (i := 16) rfl)) rfl
theorem gw_17 : Jvm.Cond.initialized "java/lang/System" ∈ gw := gw_of (mt_1 _ (List.mem_of_getElem? (i := 17) rfl)) rfl
theorem gw_18 : Jvm.Cond.initialized "CoinKeeperModel" ∈ gw := gw_of (mt_1 _ (List.mem_of_getElem? (i := 18) rfl)) rfl
theorem gw_19 : Jvm.Cond.initialized "java/lang/Integer" ∈ gw := gw_of (mt_1 _ (List.mem_of_getElem? (i := 19) rfl)) rfl
theorem gw_20 : Jvm.Cond.initialized "java/lang/Throwable" ∈ gw := gw_of (mt_1 _ (List.mem_of_getElem? (i := 20) rfl)) rfl
theorem gw_21 : Jvm.Cond.initialized "java/lang/Exception" ∈ gw := gw_of (mt_1 _ (List.mem_of_getElem? (i := 21) rfl)) rfl
theorem gw_22 : Jvm.Cond.initialized "java/lang/RuntimeException" ∈ gw := gw_of (mt_1 _ (List.mem_of_getElem? (i := 22) rfl)) rfl
theorem gw_23 : Jvm.Cond.initialized "java/lang/IllegalStateException" ∈ gw := gw_of (mt_1 _ (List.mem_of_getElem? (i := 23) rfl)) rfl
theorem gw_24 : Jvm.Cond.initialized "java/lang/IllegalArgumentException" ∈ gw := gw_of (mt_1 _ (List.mem_of_getElem? (i := 24) rfl)) rfl
theorem gw_25 : Jvm.Cond.initialized "java/util/Objects" ∈ gw := gw_of (mt_1 _ (List.mem_of_getElem? (i := 25) rfl)) rfl
theorem gw_26 : Jvm.Cond.initialized "jdk/internal/util/Preconditions" ∈ gw := gw_of (mt_1 _ (List.mem_of_getElem? (i := 26) rfl)) rfl
theorem gw_27 : Jvm.Cond.initialized "CoinKeeper$Coin" ∈ gw := gw_of (mt_1 _ (List.mem_of_getElem? (i := 27) rfl)) rfl
theorem gw_28 : Jvm.Cond.initialized "CoinKeeper$Scalar" ∈ gw := gw_of (mt_1 _ (List.mem_of_getElem? (i := 28) rfl)) rfl
theorem gw_29 : Jvm.Cond.initialized "java/util/NoSuchElementException" ∈ gw := gw_of (mt_1 _ (List.mem_of_getElem? (i := 29) rfl)) rfl
theorem gw_30 : Jvm.Cond.classLink "CoinKeeperLaw" (8 : Nat) "CoinKeeper" ∈ gw := gw_of (mt_1 _ (List.mem_of_getElem? (i := 30) rfl)) rfl
theorem gw_31 : Jvm.Cond.instantiable "CoinKeeper" (13 : Nat) ∈ gw := gw_of (mt_1 _ (List.mem_of_getElem? (i := 31) rfl)) rfl
theorem gw_32 : Jvm.Cond.methodLink "CoinKeeperLaw" (47 : Nat) ({ cls := "CoinKeeper", name := "<init>", desc := "()V" } : Jvm.MethodName) ∈ gw := gw_of (mt_1 _ (List.mem_of_getElem? (i := 32) rfl)) rfl
theorem gw_33 : Jvm.Cond.instanceMethod ({ cls := "CoinKeeper", name := "<init>", desc := "()V" } : Jvm.MethodName) ∈ gw := gw_of (mt_1 _ (List.mem_of_getElem? (i := 33) rfl)) rfl
theorem gw_34 : Jvm.Cond.code ({ cls := "CoinKeeper", name := "<init>", desc := "()V" } : Jvm.MethodName) prog_1_method_1_code (1 : Nat) (Option.none : Option Jvm.ClassFile.FieldType) ∈ gw := gw_of (mt_1 _ (List.mem_of_getElem? (i := 34) rfl)) rfl
theorem gw_35 : Jvm.Cond.methodLink "CoinKeeper" (1 : Nat) ({ cls := "java/lang/Object", name := "<init>", desc := "()V" } : Jvm.MethodName) ∈ gw := gw_of (mt_1 _ (List.mem_of_getElem? (i := 35) rfl)) rfl
theorem gw_36 : Jvm.Cond.instanceMethod ({ cls := "java/lang/Object", name := "<init>", desc := "()V" } : Jvm.MethodName) ∈ gw := gw_of (mt_1 _ (List.mem_of_getElem? (i := 36) rfl)) rfl
theorem gw_37 : Jvm.Cond.code ({ cls := "java/lang/Object", name := "<init>", desc := "()V" } : Jvm.MethodName) object_method_1_code (1 : Nat) (Option.none : Option Jvm.ClassFile.FieldType) ∈ gw := gw_of (mt_1 _ (List.mem_of_getElem? (i := 37) rfl)) rfl
theorem gw_38 : Jvm.Cond.classLink "CoinKeeper" (16 : Nat) "CoinKeeper$Sha256" ∈ gw := gw_of (mt_1 _ (List.mem_of_getElem? (i := 38) rfl)) rfl
theorem gw_39 : Jvm.Cond.instantiable "CoinKeeper$Sha256" (5 : Nat) ∈ gw := gw_of (mt_1 _ (List.mem_of_getElem? (i := 39) rfl)) rfl
theorem mw_40 : Jvm.Cond.methodLinkNest "CoinKeeper" (18 : Nat) ({ cls := "CoinKeeper$Sha256", name := "<init>", desc := "()V" } : Jvm.MethodName) "CoinKeeper" ∈ lw_tbl := mt_1 _ (List.mem_of_getElem? (i := 40) rfl)
theorem gw_41 : Jvm.Cond.instanceMethod ({ cls := "CoinKeeper$Sha256", name := "<init>", desc := "()V" } : Jvm.MethodName) ∈ gw := gw_of (mt_1 _ (List.mem_of_getElem? (i := 41) rfl)) rfl
theorem gw_42 : Jvm.Cond.code ({ cls := "CoinKeeper$Sha256", name := "<init>", desc := "()V" } : Jvm.MethodName) prog_11_method_1_code (1 : Nat) (Option.none : Option Jvm.ClassFile.FieldType) ∈ gw := gw_of (mt_1 _ (List.mem_of_getElem? (i := 42) rfl)) rfl
theorem gw_43 : Jvm.Cond.methodLink "CoinKeeper$Sha256" (1 : Nat) ({ cls := "java/lang/Object", name := "<init>", desc := "()V" } : Jvm.MethodName) ∈ gw := gw_of (mt_1 _ (List.mem_of_getElem? (i := 43) rfl)) rfl
theorem gw_44 : Jvm.Cond.fieldLink "CoinKeeper$Sha256" (7 : Nat) "CoinKeeper$Sha256" "state" "[I" ∈ gw := gw_of (mt_1 _ (List.mem_of_getElem? (i := 44) rfl)) rfl
theorem gw_45 : Jvm.Cond.fieldLink "CoinKeeper$Sha256" (13 : Nat) "CoinKeeper$Sha256" "w" "[I" ∈ gw := gw_of (mt_1 _ (List.mem_of_getElem? (i := 45) rfl)) rfl
theorem gw_46 : Jvm.Cond.fieldLink "CoinKeeper$Sha256" (16 : Nat) "CoinKeeper$Sha256" "chunk" "[B" ∈ gw := gw_of (mt_1 _ (List.mem_of_getElem? (i := 46) rfl)) rfl
theorem gw_47 : Jvm.Cond.fieldLink "CoinKeeper$Sha256" (44 : Nat) "CoinKeeper$Sha256" "filled" "I" ∈ gw := gw_of (mt_1 _ (List.mem_of_getElem? (i := 47) rfl)) rfl
theorem gw_48 : Jvm.Cond.fieldLink "CoinKeeper$Sha256" (48 : Nat) "CoinKeeper$Sha256" "length" "J" ∈ gw := gw_of (mt_1 _ (List.mem_of_getElem? (i := 48) rfl)) rfl
theorem gw_49 : Jvm.Cond.laysFinal "CoinKeeper$Sha256" "CoinKeeper$Sha256" "state" "[I" ∈ gw := gw_of (mt_1 _ (List.mem_of_getElem? (i := 49) rfl)) rfl
theorem gw_50 : Jvm.Cond.soleField "CoinKeeper$Sha256" "state" ∈ gw := gw_of (mt_1 _ (List.mem_of_getElem? (i := 50) rfl)) rfl
theorem gw_51 : Jvm.Cond.laysFinal "CoinKeeper$Sha256" "CoinKeeper$Sha256" "w" "[I" ∈ gw := gw_of (mt_1 _ (List.mem_of_getElem? (i := 51) rfl)) rfl
theorem gw_52 : Jvm.Cond.soleField "CoinKeeper$Sha256" "w" ∈ gw := gw_of (mt_1 _ (List.mem_of_getElem? (i := 52) rfl)) rfl
theorem gw_53 : Jvm.Cond.laysFinal "CoinKeeper$Sha256" "CoinKeeper$Sha256" "chunk" "[B" ∈ gw := gw_of (mt_1 _ (List.mem_of_getElem? (i := 53) rfl)) rfl
theorem gw_54 : Jvm.Cond.soleField "CoinKeeper$Sha256" "chunk" ∈ gw := gw_of (mt_1 _ (List.mem_of_getElem? (i := 54) rfl)) rfl
theorem gw_55 : Jvm.Cond.lays "CoinKeeper$Sha256" "CoinKeeper$Sha256" "filled" "I" ∈ gw := gw_of (mt_1 _ (List.mem_of_getElem? (i := 55) rfl)) rfl
theorem gw_56 : Jvm.Cond.soleField "CoinKeeper$Sha256" "filled" ∈ gw := gw_of (mt_1 _ (List.mem_of_getElem? (i := 56) rfl)) rfl
theorem gw_57 : Jvm.Cond.lays "CoinKeeper$Sha256" "CoinKeeper$Sha256" "length" "J" ∈ gw := gw_of (mt_1 _ (List.mem_of_getElem? (i := 57) rfl)) rfl
theorem gw_58 : Jvm.Cond.soleField "CoinKeeper$Sha256" "length" ∈ gw := gw_of (mt_1 _ (List.mem_of_getElem? (i := 58) rfl)) rfl
theorem gw_59 : Jvm.Cond.superclass "CoinKeeper$Sha256" "java/lang/Object" ∈ gw := gw_of (mt_1 _ (List.mem_of_getElem? (i := 59) rfl)) rfl
theorem gw_60 : Jvm.Cond.arrayClass Jvm.ClassFile.FieldType.byte ∈ gw := gw_of (mt_1 _ (List.mem_of_getElem? (i := 60) rfl)) rfl
theorem gw_61 : Jvm.Cond.arrayClass Jvm.ClassFile.FieldType.int ∈ gw := gw_of (mt_1 _ (List.mem_of_getElem? (i := 61) rfl)) rfl
theorem gw_62 : Jvm.Cond.classLink "CoinKeeper" (23 : Nat) "CoinKeeper$Signatures" ∈ gw := gw_of (mt_1 _ (List.mem_of_getElem? (i := 62) rfl)) rfl
theorem gw_63 : Jvm.Cond.instantiable "CoinKeeper$Signatures" (13 : Nat) ∈ gw := gw_of (mt_1 _ (List.mem_of_getElem? (i := 63) rfl)) rfl
theorem gw_64 : Jvm.Cond.methodLink "CoinKeeper" (25 : Nat) ({ cls := "CoinKeeper$Signatures", name := "<init>", desc := "()V" } : Jvm.MethodName) ∈ gw := gw_of (mt_1 _ (List.mem_of_getElem? (i := 64) rfl)) rfl
theorem gw_65 : Jvm.Cond.instanceMethod ({ cls := "CoinKeeper$Signatures", name := "<init>", desc := "()V" } : Jvm.MethodName) ∈ gw := gw_of (mt_1 _ (List.mem_of_getElem? (i := 65) rfl)) rfl
theorem gw_66 : Jvm.Cond.code ({ cls := "CoinKeeper$Signatures", name := "<init>", desc := "()V" } : Jvm.MethodName) prog_12_method_1_code (2 : Nat) (Option.none : Option Jvm.ClassFile.FieldType) ∈ gw := gw_of (mt_1 _ (List.mem_of_getElem? (i := 66) rfl)) rfl
theorem gw_67 : Jvm.Cond.methodLink "CoinKeeper$Signatures" (1 : Nat) ({ cls := "java/lang/Object", name := "<init>", desc := "()V" } : Jvm.MethodName) ∈ gw := gw_of (mt_1 _ (List.mem_of_getElem? (i := 67) rfl)) rfl
theorem gw_68 : Jvm.Cond.classLink "CoinKeeper$Signatures" (7 : Nat) "CoinKeeper$Curve" ∈ gw := gw_of (mt_1 _ (List.mem_of_getElem? (i := 68) rfl)) rfl
theorem gw_69 : Jvm.Cond.instantiable "CoinKeeper$Curve" (7 : Nat) ∈ gw := gw_of (mt_1 _ (List.mem_of_getElem? (i := 69) rfl)) rfl
theorem mw_70 : Jvm.Cond.methodLinkNest "CoinKeeper$Signatures" (9 : Nat) ({ cls := "CoinKeeper$Curve", name := "<init>", desc := "()V" } : Jvm.MethodName) "CoinKeeper" ∈ lw_tbl := mt_1 _ (List.mem_of_getElem? (i := 70) rfl)
theorem gw_71 : Jvm.Cond.instanceMethod ({ cls := "CoinKeeper$Curve", name := "<init>", desc := "()V" } : Jvm.MethodName) ∈ gw := gw_of (mt_1 _ (List.mem_of_getElem? (i := 71) rfl)) rfl
theorem gw_72 : Jvm.Cond.code ({ cls := "CoinKeeper$Curve", name := "<init>", desc := "()V" } : Jvm.MethodName) prog_4_method_1_code (1 : Nat) (Option.none : Option Jvm.ClassFile.FieldType) ∈ gw := gw_of (mt_1 _ (List.mem_of_getElem? (i := 72) rfl)) rfl
theorem gw_73 : Jvm.Cond.methodLink "CoinKeeper$Curve" (1 : Nat) ({ cls := "java/lang/Object", name := "<init>", desc := "()V" } : Jvm.MethodName) ∈ gw := gw_of (mt_1 _ (List.mem_of_getElem? (i := 73) rfl)) rfl
theorem gw_74 : Jvm.Cond.classLink "CoinKeeper$Curve" (9 : Nat) "[[J" ∈ gw := gw_of (mt_1 _ (List.mem_of_getElem? (i := 74) rfl)) rfl
theorem mw_75 : Jvm.Cond.arrayOver (Jvm.ClassFile.FieldType.array Jvm.ClassFile.FieldType.long) ∈ lw_tbl := mt_1 _ (List.mem_of_getElem? (i := 75) rfl)
theorem gw_76 : Jvm.Cond.fieldLink "CoinKeeper$Curve" (11 : Nat) "CoinKeeper$Curve" "rows" "[[J" ∈ gw := gw_of (mt_1 _ (List.mem_of_getElem? (i := 76) rfl)) rfl
theorem gw_77 : Jvm.Cond.fieldLink "CoinKeeper$Curve" (16 : Nat) "CoinKeeper$Curve" "limbs" "[J" ∈ gw := gw_of (mt_1 _ (List.mem_of_getElem? (i := 77) rfl)) rfl
theorem gw_78 : Jvm.Cond.fieldLink "CoinKeeper$Curve" (20 : Nat) "CoinKeeper$Curve" "a" "[J" ∈ gw := gw_of (mt_1 _ (List.mem_of_getElem? (i := 78) rfl)) rfl
theorem gw_79 : Jvm.Cond.fieldLink "CoinKeeper$Curve" (23 : Nat) "CoinKeeper$Curve" "b" "[J" ∈ gw := gw_of (mt_1 _ (List.mem_of_getElem? (i := 79) rfl)) rfl
theorem gw_80 : Jvm.Cond.fieldLink "CoinKeeper$Curve" (26 : Nat) "CoinKeeper$Curve" "c" "[J" ∈ gw := gw_of (mt_1 _ (List.mem_of_getElem? (i := 80) rfl)) rfl
theorem gw_81 : Jvm.Cond.fieldLink "CoinKeeper$Curve" (29 : Nat) "CoinKeeper$Curve" "d" "[J" ∈ gw := gw_of (mt_1 _ (List.mem_of_getElem? (i := 81) rfl)) rfl
theorem gw_82 : Jvm.Cond.fieldLink "CoinKeeper$Curve" (32 : Nat) "CoinKeeper$Curve" "f" "[J" ∈ gw := gw_of (mt_1 _ (List.mem_of_getElem? (i := 82) rfl)) rfl
theorem gw_83 : Jvm.Cond.laysFinal "CoinKeeper$Curve" "CoinKeeper$Curve" "rows" "[[J" ∈ gw := gw_of (mt_1 _ (List.mem_of_getElem? (i := 83) rfl)) rfl
theorem gw_84 : Jvm.Cond.soleField "CoinKeeper$Curve" "rows" ∈ gw := gw_of (mt_1 _ (List.mem_of_getElem? (i := 84) rfl)) rfl
theorem gw_85 : Jvm.Cond.laysFinal "CoinKeeper$Curve" "CoinKeeper$Curve" "limbs" "[J" ∈ gw := gw_of (mt_1 _ (List.mem_of_getElem? (i := 85) rfl)) rfl
theorem gw_86 : Jvm.Cond.soleField "CoinKeeper$Curve" "limbs" ∈ gw := gw_of (mt_1 _ (List.mem_of_getElem? (i := 86) rfl)) rfl
theorem gw_87 : Jvm.Cond.laysFinal "CoinKeeper$Curve" "CoinKeeper$Curve" "a" "[J" ∈ gw := gw_of (mt_1 _ (List.mem_of_getElem? (i := 87) rfl)) rfl
theorem gw_88 : Jvm.Cond.soleField "CoinKeeper$Curve" "a" ∈ gw := gw_of (mt_1 _ (List.mem_of_getElem? (i := 88) rfl)) rfl
theorem gw_89 : Jvm.Cond.laysFinal "CoinKeeper$Curve" "CoinKeeper$Curve" "b" "[J" ∈ gw := gw_of (mt_1 _ (List.mem_of_getElem? (i := 89) rfl)) rfl
theorem gw_90 : Jvm.Cond.soleField "CoinKeeper$Curve" "b" ∈ gw := gw_of (mt_1 _ (List.mem_of_getElem? (i := 90) rfl)) rfl
theorem gw_91 : Jvm.Cond.laysFinal "CoinKeeper$Curve" "CoinKeeper$Curve" "c" "[J" ∈ gw := gw_of (mt_1 _ (List.mem_of_getElem? (i := 91) rfl)) rfl
theorem gw_92 : Jvm.Cond.soleField "CoinKeeper$Curve" "c" ∈ gw := gw_of (mt_1 _ (List.mem_of_getElem? (i := 92) rfl)) rfl
theorem gw_93 : Jvm.Cond.laysFinal "CoinKeeper$Curve" "CoinKeeper$Curve" "d" "[J" ∈ gw := gw_of (mt_1 _ (List.mem_of_getElem? (i := 93) rfl)) rfl
theorem gw_94 : Jvm.Cond.soleField "CoinKeeper$Curve" "d" ∈ gw := gw_of (mt_1 _ (List.mem_of_getElem? (i := 94) rfl)) rfl
theorem gw_95 : Jvm.Cond.laysFinal "CoinKeeper$Curve" "CoinKeeper$Curve" "f" "[J" ∈ gw := gw_of (mt_1 _ (List.mem_of_getElem? (i := 95) rfl)) rfl
theorem gw_96 : Jvm.Cond.soleField "CoinKeeper$Curve" "f" ∈ gw := gw_of (mt_1 _ (List.mem_of_getElem? (i := 96) rfl)) rfl
theorem gw_97 : Jvm.Cond.superclass "CoinKeeper$Curve" "java/lang/Object" ∈ gw := gw_of (mt_1 _ (List.mem_of_getElem? (i := 97) rfl)) rfl
theorem gw_98 : Jvm.Cond.arrayClass Jvm.ClassFile.FieldType.long ∈ gw := gw_of (mt_1 _ (List.mem_of_getElem? (i := 98) rfl)) rfl
theorem gw_99 : Jvm.Cond.classLink "CoinKeeper$Signatures" (34 : Nat) "[[J" ∈ gw := gw_of (mt_1 _ (List.mem_of_getElem? (i := 99) rfl)) rfl
theorem gw_100 : Jvm.Cond.classLink "CoinKeeper$Signatures" (46 : Nat) "CoinKeeper$Point" ∈ gw := gw_of (mt_1 _ (List.mem_of_getElem? (i := 100) rfl)) rfl
theorem mw_101 : Jvm.Cond.arrayOver (Jvm.ClassFile.FieldType.object "CoinKeeper$Point") ∈ lw_tbl := mt_1 _ (List.mem_of_getElem? (i := 101) rfl)
theorem gw_102 : Jvm.Cond.instantiable "CoinKeeper$Point" (5 : Nat) ∈ gw := gw_of (mt_1 _ (List.mem_of_getElem? (i := 102) rfl)) rfl
theorem mw_103 : Jvm.Cond.methodLinkNest "CoinKeeper$Signatures" (55 : Nat) ({ cls := "CoinKeeper$Point", name := "<init>", desc := "()V" } : Jvm.MethodName) "CoinKeeper" ∈ lw_tbl := mt_1 _ (List.mem_of_getElem? (i := 103) rfl)
theorem gw_104 : Jvm.Cond.instanceMethod ({ cls := "CoinKeeper$Point", name := "<init>", desc := "()V" } : Jvm.MethodName) ∈ gw := gw_of (mt_1 _ (List.mem_of_getElem? (i := 104) rfl)) rfl
theorem gw_105 : Jvm.Cond.code ({ cls := "CoinKeeper$Point", name := "<init>", desc := "()V" } : Jvm.MethodName) prog_8_method_1_code (1 : Nat) (Option.none : Option Jvm.ClassFile.FieldType) ∈ gw := gw_of (mt_1 _ (List.mem_of_getElem? (i := 105) rfl)) rfl
theorem gw_106 : Jvm.Cond.methodLink "CoinKeeper$Point" (1 : Nat) ({ cls := "java/lang/Object", name := "<init>", desc := "()V" } : Jvm.MethodName) ∈ gw := gw_of (mt_1 _ (List.mem_of_getElem? (i := 106) rfl)) rfl
theorem gw_107 : Jvm.Cond.fieldLink "CoinKeeper$Point" (9 : Nat) "CoinKeeper$Point" "x" "[J" ∈ gw := gw_of (mt_1 _ (List.mem_of_getElem? (i := 107) rfl)) rfl
theorem gw_108 : Jvm.Cond.fieldLink "CoinKeeper$Curve" (35 : Nat) "CoinKeeper$Point" "x" "[J" ∈ gw := gw_of (mt_1 _ (List.mem_of_getElem? (i := 108) rfl)) rfl
theorem gw_109 : Jvm.Cond.fieldLink "CoinKeeper$Point" (15 : Nat) "CoinKeeper$Point" "y" "[J" ∈ gw := gw_of (mt_1 _ (List.mem_of_getElem? (i := 109) rfl)) rfl
theorem gw_110 : Jvm.Cond.fieldLink "CoinKeeper$Curve" (50 : Nat) "CoinKeeper$Point" "y" "[J" ∈ gw := gw_of (mt_1 _ (List.mem_of_getElem? (i := 110) rfl)) rfl
theorem gw_111 : Jvm.Cond.fieldLink "CoinKeeper$Point" (18 : Nat) "CoinKeeper$Point" "z" "[J" ∈ gw := gw_of (mt_1 _ (List.mem_of_getElem? (i := 111) rfl)) rfl
theorem gw_112 : Jvm.Cond.fieldLink "CoinKeeper$Curve" (97 : Nat) "CoinKeeper$Point" "z" "[J" ∈ gw := gw_of (mt_1 _ (List.mem_of_getElem? (i := 112) rfl)) rfl
theorem gw_113 : Jvm.Cond.fieldLink "CoinKeeper$Point" (28 : Nat) "CoinKeeper$Point" "isNone" "Z" ∈ gw := gw_of (mt_1 _ (List.mem_of_getElem? (i := 113) rfl)) rfl
theorem gw_114 : Jvm.Cond.fieldLink "CoinKeeper$Curve" (100 : Nat) "CoinKeeper$Point" "isNone" "Z" ∈ gw := gw_of (mt_1 _ (List.mem_of_getElem? (i := 114) rfl)) rfl
theorem gw_115 : Jvm.Cond.fieldLink "CoinKeeper$Signatures" (146 : Nat) "CoinKeeper$Point" "isNone" "Z" ∈ gw := gw_of (mt_1 _ (List.mem_of_getElem? (i := 115) rfl)) rfl
theorem gw_116 : Jvm.Cond.fieldLink "CoinKeeper$Point" (32 : Nat) "CoinKeeper$Point" "isPlain" "Z" ∈ gw := gw_of (mt_1 _ (List.mem_of_getElem? (i := 116) rfl)) rfl
theorem gw_117 : Jvm.Cond.fieldLink "CoinKeeper$Curve" (112 : Nat) "CoinKeeper$Point" "isPlain" "Z" ∈ gw := gw_of (mt_1 _ (List.mem_of_getElem? (i := 117) rfl)) rfl
theorem gw_118 : Jvm.Cond.laysFinal "CoinKeeper$Point" "CoinKeeper$Point" "x" "[J" ∈ gw := gw_of (mt_1 _ (List.mem_of_getElem? (i := 118) rfl)) rfl
theorem gw_119 : Jvm.Cond.soleField "CoinKeeper$Point" "x" ∈ gw := gw_of (mt_1 _ (List.mem_of_getElem? (i := 119) rfl)) rfl
theorem gw_120 : Jvm.Cond.laysFinal "CoinKeeper$Point" "CoinKeeper$Point" "y" "[J" ∈ gw := gw_of (mt_1 _ (List.mem_of_getElem? (i := 120) rfl)) rfl
theorem gw_121 : Jvm.Cond.soleField "CoinKeeper$Point" "y" ∈ gw := gw_of (mt_1 _ (List.mem_of_getElem? (i := 121) rfl)) rfl
theorem gw_122 : Jvm.Cond.laysFinal "CoinKeeper$Point" "CoinKeeper$Point" "z" "[J" ∈ gw := gw_of (mt_1 _ (List.mem_of_getElem? (i := 122) rfl)) rfl
theorem gw_123 : Jvm.Cond.soleField "CoinKeeper$Point" "z" ∈ gw := gw_of (mt_1 _ (List.mem_of_getElem? (i := 123) rfl)) rfl
theorem gw_124 : Jvm.Cond.lays "CoinKeeper$Point" "CoinKeeper$Point" "isNone" "Z" ∈ gw := gw_of (mt_1 _ (List.mem_of_getElem? (i := 124) rfl)) rfl
theorem gw_125 : Jvm.Cond.soleField "CoinKeeper$Point" "isNone" ∈ gw := gw_of (mt_1 _ (List.mem_of_getElem? (i := 125) rfl)) rfl
theorem gw_126 : Jvm.Cond.lays "CoinKeeper$Point" "CoinKeeper$Point" "isPlain" "Z" ∈ gw := gw_of (mt_1 _ (List.mem_of_getElem? (i := 126) rfl)) rfl
theorem gw_127 : Jvm.Cond.soleField "CoinKeeper$Point" "isPlain" ∈ gw := gw_of (mt_1 _ (List.mem_of_getElem? (i := 127) rfl)) rfl
theorem gw_128 : Jvm.Cond.superclass "CoinKeeper$Point" "java/lang/Object" ∈ gw := gw_of (mt_1 _ (List.mem_of_getElem? (i := 128) rfl)) rfl
theorem gw_129 : Jvm.Cond.methodLink "CoinKeeper$Signatures" (63 : Nat) ({ cls := "CoinKeeper$Point", name := "becomeBase", desc := "(I)V" } : Jvm.MethodName) ∈ gw := gw_of (mt_1 _ (List.mem_of_getElem? (i := 129) rfl)) rfl
theorem gw_130 : Jvm.Cond.instanceMethod ({ cls := "CoinKeeper$Point", name := "becomeBase", desc := "(I)V" } : Jvm.MethodName) ∈ gw := gw_of (mt_1 _ (List.mem_of_getElem? (i := 130) rfl)) rfl
theorem gw_131 : Jvm.Cond.selects "CoinKeeper$Point" ({ cls := "CoinKeeper$Point", name := "becomeBase", desc := "(I)V" } : Jvm.MethodName) ({ cls := "CoinKeeper$Point", name := "becomeBase", desc := "(I)V" } : Jvm.MethodName) ∈ gw := gw_of (mt_1 _ (List.mem_of_getElem? (i := 131) rfl)) rfl
theorem gw_132 : Jvm.Cond.code ({ cls := "CoinKeeper$Point", name := "becomeBase", desc := "(I)V" } : Jvm.MethodName) prog_8_method_2_code (3 : Nat) (Option.none : Option Jvm.ClassFile.FieldType) ∈ gw := gw_of (mt_1 _ (List.mem_of_getElem? (i := 132) rfl)) rfl
theorem gw_133 : Jvm.Cond.fieldLink "CoinKeeper$Point" (21 : Nat) "CoinKeeper$Point" "ODDS_OF_BASE" "[I" ∈ gw := gw_of (mt_1 _ (List.mem_of_getElem? (i := 133) rfl)) rfl
theorem mw_134 : Jvm.Cond.laysStatic "CoinKeeper$Point" "ODDS_OF_BASE" "[I" ∈ lw_tbl := mt_1 _ (List.mem_of_getElem? (i := 134) rfl)
theorem gw_135 : Jvm.Cond.methodLink "CoinKeeper$Point" (25 : Nat) ({ cls := "CoinKeeper$Point", name := "becomePlain", desc := "()V" } : Jvm.MethodName) ∈ gw := gw_of (mt_1 _ (List.mem_of_getElem? (i := 135) rfl)) rfl
theorem gw_136 : Jvm.Cond.instanceMethod ({ cls := "CoinKeeper$Point", name := "becomePlain", desc := "()V" } : Jvm.MethodName) ∈ gw := gw_of (mt_1 _ (List.mem_of_getElem? (i := 136) rfl)) rfl
theorem gw_137 : Jvm.Cond.selects "CoinKeeper$Point" ({ cls := "CoinKeeper$Point", name := "becomePlain", desc := "()V" } : Jvm.MethodName) ({ cls := "CoinKeeper$Point", name := "becomePlain", desc := "()V" } : Jvm.MethodName) ∈ gw := gw_of (mt_1 _ (List.mem_of_getElem? (i := 137) rfl)) rfl
theorem gw_138 : Jvm.Cond.code ({ cls := "CoinKeeper$Point", name := "becomePlain", desc := "()V" } : Jvm.MethodName) prog_8_method_3_code (2 : Nat) (Option.none : Option Jvm.ClassFile.FieldType) ∈ gw := gw_of (mt_1 _ (List.mem_of_getElem? (i := 138) rfl)) rfl
theorem gw_139 : Jvm.Cond.fieldLink "CoinKeeper$Signatures" (10 : Nat) "CoinKeeper$Signatures" "curve" "LCoinKeeper$Curve;" ∈ gw := gw_of (mt_1 _ (List.mem_of_getElem? (i := 139) rfl)) rfl
theorem gw_140 : Jvm.Cond.fieldLink "CoinKeeper$Signatures" (18 : Nat) "CoinKeeper$Signatures" "\x72" "[J" ∈ gw := gw_of (mt_1 _ (List.mem_of_getElem? (i := 140) rfl)) rfl
theorem gw_141 : Jvm.Cond.fieldLink "CoinKeeper$Signatures" (22 : Nat) "CoinKeeper$Signatures" "s" "[J" ∈ gw := gw_of (mt_1 _ (List.mem_of_getElem? (i := 141) rfl)) rfl
theorem gw_142 : Jvm.Cond.fieldLink "CoinKeeper$Signatures" (25 : Nat) "CoinKeeper$Signatures" "message" "[J" ∈ gw := gw_of (mt_1 _ (List.mem_of_getElem? (i := 142) rfl)) rfl
theorem gw_143 : Jvm.Cond.fieldLink "CoinKeeper$Signatures" (28 : Nat) "CoinKeeper$Signatures" "ofBase" "[J" ∈ gw := gw_of (mt_1 _ (List.mem_of_getElem? (i := 143) rfl)) rfl
theorem gw_144 : Jvm.Cond.fieldLink "CoinKeeper$Signatures" (31 : Nat) "CoinKeeper$Signatures" "ofKey" "[J" ∈ gw := gw_of (mt_1 _ (List.mem_of_getElem? (i := 144) rfl)) rfl
theorem gw_145 : Jvm.Cond.fieldLink "CoinKeeper$Signatures" (36 : Nat) "CoinKeeper$Signatures" "spare" "[[J" ∈ gw := gw_of (mt_1 _ (List.mem_of_getElem? (i := 145) rfl)) rfl
theorem gw_146 : Jvm.Cond.fieldLink "CoinKeeper$Signatures" (39 : Nat) "CoinKeeper$Signatures" "baseDigits" "[B" ∈ gw := gw_of (mt_1 _ (List.mem_of_getElem? (i := 146) rfl)) rfl
theorem gw_147 : Jvm.Cond.fieldLink "CoinKeeper$Signatures" (43 : Nat) "CoinKeeper$Signatures" "keyDigits" "[B" ∈ gw := gw_of (mt_1 _ (List.mem_of_getElem? (i := 147) rfl)) rfl
theorem gw_148 : Jvm.Cond.fieldLink "CoinKeeper$Signatures" (48 : Nat) "CoinKeeper$Signatures" "base" "[LCoinKeeper$Point;" ∈ gw := gw_of (mt_1 _ (List.mem_of_getElem? (i := 148) rfl)) rfl
theorem gw_149 : Jvm.Cond.fieldLink "CoinKeeper$Signatures" (52 : Nat) "CoinKeeper$Signatures" "key" "[LCoinKeeper$Point;" ∈ gw := gw_of (mt_1 _ (List.mem_of_getElem? (i := 149) rfl)) rfl
theorem gw_150 : Jvm.Cond.fieldLink "CoinKeeper$Signatures" (56 : Nat) "CoinKeeper$Signatures" "twiceKey" "LCoinKeeper$Point;" ∈ gw := gw_of (mt_1 _ (List.mem_of_getElem? (i := 150) rfl)) rfl
theorem gw_151 : Jvm.Cond.fieldLink "CoinKeeper$Signatures" (60 : Nat) "CoinKeeper$Signatures" "sum" "LCoinKeeper$Point;" ∈ gw := gw_of (mt_1 _ (List.mem_of_getElem? (i := 151) rfl)) rfl
theorem gw_152 : Jvm.Cond.laysFinal "CoinKeeper$Signatures" "CoinKeeper$Signatures" "curve" "LCoinKeeper$Curve;" ∈ gw := gw_of (mt_1 _ (List.mem_of_getElem? (i := 152) rfl)) rfl
theorem gw_153 : Jvm.Cond.soleField "CoinKeeper$Signatures" "curve" ∈ gw := gw_of (mt_1 _ (List.mem_of_getElem? (i := 153) rfl)) rfl
theorem gw_154 : Jvm.Cond.laysFinal "CoinKeeper$Signatures" "CoinKeeper$Signatures" "\x72" "[J" ∈ gw := gw_of (mt_1 _ (List.mem_of_getElem? (i := 154) rfl)) rfl
theorem gw_155 : Jvm.Cond.soleField "CoinKeeper$Signatures" "\x72" ∈ gw := gw_of (mt_1 _ (List.mem_of_getElem? (i := 155) rfl)) rfl
theorem gw_156 : Jvm.Cond.laysFinal "CoinKeeper$Signatures" "CoinKeeper$Signatures" "s" "[J" ∈ gw := gw_of (mt_1 _ (List.mem_of_getElem? (i := 156) rfl)) rfl
theorem gw_157 : Jvm.Cond.soleField "CoinKeeper$Signatures" "s" ∈ gw := gw_of (mt_1 _ (List.mem_of_getElem? (i := 157) rfl)) rfl
theorem gw_158 : Jvm.Cond.laysFinal "CoinKeeper$Signatures" "CoinKeeper$Signatures" "message" "[J" ∈ gw := gw_of (mt_1 _ (List.mem_of_getElem? (i := 158) rfl)) rfl
theorem gw_159 : Jvm.Cond.soleField "CoinKeeper$Signatures" "message" ∈ gw := gw_of (mt_1 _ (List.mem_of_getElem? (i := 159) rfl)) rfl
theorem gw_160 : Jvm.Cond.laysFinal "CoinKeeper$Signatures" "CoinKeeper$Signatures" "ofBase" "[J" ∈ gw := gw_of (mt_1 _ (List.mem_of_getElem? (i := 160) rfl)) rfl
theorem gw_161 : Jvm.Cond.soleField "CoinKeeper$Signatures" "ofBase" ∈ gw := gw_of (mt_1 _ (List.mem_of_getElem? (i := 161) rfl)) rfl
theorem gw_162 : Jvm.Cond.laysFinal "CoinKeeper$Signatures" "CoinKeeper$Signatures" "ofKey" "[J" ∈ gw := gw_of (mt_1 _ (List.mem_of_getElem? (i := 162) rfl)) rfl
theorem gw_163 : Jvm.Cond.soleField "CoinKeeper$Signatures" "ofKey" ∈ gw := gw_of (mt_1 _ (List.mem_of_getElem? (i := 163) rfl)) rfl
theorem gw_164 : Jvm.Cond.laysFinal "CoinKeeper$Signatures" "CoinKeeper$Signatures" "spare" "[[J" ∈ gw := gw_of (mt_1 _ (List.mem_of_getElem? (i := 164) rfl)) rfl
theorem gw_165 : Jvm.Cond.soleField "CoinKeeper$Signatures" "spare" ∈ gw := gw_of (mt_1 _ (List.mem_of_getElem? (i := 165) rfl)) rfl
theorem gw_166 : Jvm.Cond.laysFinal "CoinKeeper$Signatures" "CoinKeeper$Signatures" "baseDigits" "[B" ∈ gw := gw_of (mt_1 _ (List.mem_of_getElem? (i := 166) rfl)) rfl
theorem gw_167 : Jvm.Cond.soleField "CoinKeeper$Signatures" "baseDigits" ∈ gw := gw_of (mt_1 _ (List.mem_of_getElem? (i := 167) rfl)) rfl
theorem gw_168 : Jvm.Cond.laysFinal "CoinKeeper$Signatures" "CoinKeeper$Signatures" "keyDigits" "[B" ∈ gw := gw_of (mt_1 _ (List.mem_of_getElem? (i := 168) rfl)) rfl
theorem gw_169 : Jvm.Cond.soleField "CoinKeeper$Signatures" "keyDigits" ∈ gw := gw_of (mt_1 _ (List.mem_of_getElem? (i := 169) rfl)) rfl
theorem gw_170 : Jvm.Cond.laysFinal "CoinKeeper$Signatures" "CoinKeeper$Signatures" "base" "[LCoinKeeper$Point;" ∈ gw := gw_of (mt_1 _ (List.mem_of_getElem? (i := 170) rfl)) rfl
theorem gw_171 : Jvm.Cond.soleField "CoinKeeper$Signatures" "base" ∈ gw := gw_of (mt_1 _ (List.mem_of_getElem? (i := 171) rfl)) rfl
theorem gw_172 : Jvm.Cond.laysFinal "CoinKeeper$Signatures" "CoinKeeper$Signatures" "key" "[LCoinKeeper$Point;" ∈ gw := gw_of (mt_1 _ (List.mem_of_getElem? (i := 172) rfl)) rfl
theorem gw_173 : Jvm.Cond.soleField "CoinKeeper$Signatures" "key" ∈ gw := gw_of (mt_1 _ (List.mem_of_getElem? (i := 173) rfl)) rfl
theorem gw_174 : Jvm.Cond.laysFinal "CoinKeeper$Signatures" "CoinKeeper$Signatures" "twiceKey" "LCoinKeeper$Point;" ∈ gw := gw_of (mt_1 _ (List.mem_of_getElem? (i := 174) rfl)) rfl
theorem gw_175 : Jvm.Cond.soleField "CoinKeeper$Signatures" "twiceKey" ∈ gw := gw_of (mt_1 _ (List.mem_of_getElem? (i := 175) rfl)) rfl
theorem gw_176 : Jvm.Cond.laysFinal "CoinKeeper$Signatures" "CoinKeeper$Signatures" "sum" "LCoinKeeper$Point;" ∈ gw := gw_of (mt_1 _ (List.mem_of_getElem? (i := 176) rfl)) rfl
theorem gw_177 : Jvm.Cond.soleField "CoinKeeper$Signatures" "sum" ∈ gw := gw_of (mt_1 _ (List.mem_of_getElem? (i := 177) rfl)) rfl
theorem gw_178 : Jvm.Cond.superclass "CoinKeeper$Signatures" "java/lang/Object" ∈ gw := gw_of (mt_1 _ (List.mem_of_getElem? (i := 178) rfl)) rfl
theorem gw_179 : Jvm.Cond.classLink "CoinKeeper" (30 : Nat) "CoinKeeper$Machine" ∈ gw := gw_of (mt_1 _ (List.mem_of_getElem? (i := 179) rfl)) rfl
theorem gw_180 : Jvm.Cond.instantiable "CoinKeeper$Machine" (19 : Nat) ∈ gw := gw_of (mt_1 _ (List.mem_of_getElem? (i := 180) rfl)) rfl
theorem gw_181 : Jvm.Cond.methodLink "CoinKeeper" (32 : Nat) ({ cls := "CoinKeeper$Machine", name := "<init>", desc := "(LCoinKeeper$Sha256;LCoinKeeper$Signatures;)V" } : Jvm.MethodName) ∈ gw := gw_of (mt_1 _ (List.mem_of_getElem? (i := 181) rfl)) rfl
theorem gw_182 : Jvm.Cond.instanceMethod ({ cls := "CoinKeeper$Machine", name := "<init>", desc := "(LCoinKeeper$Sha256;LCoinKeeper$Signatures;)V" } : Jvm.MethodName) ∈ gw := gw_of (mt_1 _ (List.mem_of_getElem? (i := 182) rfl)) rfl
theorem gw_183 : Jvm.Cond.code ({ cls := "CoinKeeper$Machine", name := "<init>", desc := "(LCoinKeeper$Sha256;LCoinKeeper$Signatures;)V" } : Jvm.MethodName) prog_7_method_1_code (4 : Nat) (Option.none : Option Jvm.ClassFile.FieldType) ∈ gw := gw_of (mt_1 _ (List.mem_of_getElem? (i := 183) rfl)) rfl
theorem gw_184 : Jvm.Cond.methodLink "CoinKeeper$Machine" (5 : Nat) ({ cls := "java/lang/Object", name := "<init>", desc := "()V" } : Jvm.MethodName) ∈ gw := gw_of (mt_1 _ (List.mem_of_getElem? (i := 184) rfl)) rfl
theorem gw_185 : Jvm.Cond.classLink "CoinKeeper$Machine" (11 : Nat) "CoinKeeper$Ripemd160" ∈ gw := gw_of (mt_1 _ (List.mem_of_getElem? (i := 185) rfl)) rfl
theorem gw_186 : Jvm.Cond.instantiable "CoinKeeper$Ripemd160" (4 : Nat) ∈ gw := gw_of (mt_1 _ (List.mem_of_getElem? (i := 186) rfl)) rfl
theorem mw_187 : Jvm.Cond.methodLinkNest "CoinKeeper$Machine" (13 : Nat) ({ cls := "CoinKeeper$Ripemd160", name := "<init>", desc := "()V" } : Jvm.MethodName) "CoinKeeper" ∈ lw_tbl := mt_1 _ (List.mem_of_getElem? (i := 187) rfl)
theorem gw_188 : Jvm.Cond.instanceMethod ({ cls := "CoinKeeper$Ripemd160", name := "<init>", desc := "()V" } : Jvm.MethodName) ∈ gw := gw_of (mt_1 _ (List.mem_of_getElem? (i := 188) rfl)) rfl
theorem gw_189 : Jvm.Cond.code ({ cls := "CoinKeeper$Ripemd160", name := "<init>", desc := "()V" } : Jvm.MethodName) prog_9_method_1_code (1 : Nat) (Option.none : Option Jvm.ClassFile.FieldType) ∈ gw := gw_of (mt_1 _ (List.mem_of_getElem? (i := 189) rfl)) rfl
theorem gw_190 : Jvm.Cond.methodLink "CoinKeeper$Ripemd160" (1 : Nat) ({ cls := "java/lang/Object", name := "<init>", desc := "()V" } : Jvm.MethodName) ∈ gw := gw_of (mt_1 _ (List.mem_of_getElem? (i := 190) rfl)) rfl
theorem gw_191 : Jvm.Cond.fieldLink "CoinKeeper$Ripemd160" (7 : Nat) "CoinKeeper$Ripemd160" "state" "[I" ∈ gw := gw_of (mt_1 _ (List.mem_of_getElem? (i := 191) rfl)) rfl
theorem gw_192 : Jvm.Cond.fieldLink "CoinKeeper$Ripemd160" (13 : Nat) "CoinKeeper$Ripemd160" "left" "[I" ∈ gw := gw_of (mt_1 _ (List.mem_of_getElem? (i := 192) rfl)) rfl
theorem gw_193 : Jvm.Cond.fieldLink "CoinKeeper$Ripemd160" (16 : Nat) "CoinKeeper$Ripemd160" "right" "[I" ∈ gw := gw_of (mt_1 _ (List.mem_of_getElem? (i := 193) rfl)) rfl
theorem gw_194 : Jvm.Cond.fieldLink "CoinKeeper$Ripemd160" (19 : Nat) "CoinKeeper$Ripemd160" "x" "[I" ∈ gw := gw_of (mt_1 _ (List.mem_of_getElem? (i := 194) rfl)) rfl
theorem gw_195 : Jvm.Cond.laysFinal "CoinKeeper$Ripemd160" "CoinKeeper$Ripemd160" "state" "[I" ∈ gw := gw_of (mt_1 _ (List.mem_of_getElem? (i := 195) rfl)) rfl
theorem gw_196 : Jvm.Cond.soleField "CoinKeeper$Ripemd160" "state" ∈ gw := gw_of (mt_1 _ (List.mem_of_getElem? (i := 196) rfl)) rfl
theorem gw_197 : Jvm.Cond.laysFinal "CoinKeeper$Ripemd160" "CoinKeeper$Ripemd160" "left" "[I" ∈ gw := gw_of (mt_1 _ (List.mem_of_getElem? (i := 197) rfl)) rfl
theorem gw_198 : Jvm.Cond.soleField "CoinKeeper$Ripemd160" "left" ∈ gw := gw_of (mt_1 _ (List.mem_of_getElem? (i := 198) rfl)) rfl
theorem gw_199 : Jvm.Cond.laysFinal "CoinKeeper$Ripemd160" "CoinKeeper$Ripemd160" "right" "[I" ∈ gw := gw_of (mt_1 _ (List.mem_of_getElem? (i := 199) rfl)) rfl
theorem gw_200 : Jvm.Cond.soleField "CoinKeeper$Ripemd160" "right" ∈ gw := gw_of (mt_1 _ (List.mem_of_getElem? (i := 200) rfl)) rfl
theorem gw_201 : Jvm.Cond.laysFinal "CoinKeeper$Ripemd160" "CoinKeeper$Ripemd160" "x" "[I" ∈ gw := gw_of (mt_1 _ (List.mem_of_getElem? (i := 201) rfl)) rfl
theorem gw_202 : Jvm.Cond.soleField "CoinKeeper$Ripemd160" "x" ∈ gw := gw_of (mt_1 _ (List.mem_of_getElem? (i := 202) rfl)) rfl
theorem gw_203 : Jvm.Cond.superclass "CoinKeeper$Ripemd160" "java/lang/Object" ∈ gw := gw_of (mt_1 _ (List.mem_of_getElem? (i := 203) rfl)) rfl
theorem gw_204 : Jvm.Cond.fieldLink "CoinKeeper$Machine" (36 : Nat) "CoinKeeper$Machine" "sha" "LCoinKeeper$Sha256;" ∈ gw := gw_of (mt_1 _ (List.mem_of_getElem? (i := 204) rfl)) rfl
theorem gw_205 : Jvm.Cond.fieldLink "CoinKeeper$Machine" (40 : Nat) "CoinKeeper$Machine" "signatures" "LCoinKeeper$Signatures;" ∈ gw := gw_of (mt_1 _ (List.mem_of_getElem? (i := 205) rfl)) rfl
theorem gw_206 : Jvm.Cond.fieldLink "CoinKeeper$Machine" (14 : Nat) "CoinKeeper$Machine" "ripemd" "LCoinKeeper$Ripemd160;" ∈ gw := gw_of (mt_1 _ (List.mem_of_getElem? (i := 206) rfl)) rfl
theorem gw_207 : Jvm.Cond.fieldLink "CoinKeeper$Machine" (18 : Nat) "CoinKeeper$Machine" "data" "[B" ∈ gw := gw_of (mt_1 _ (List.mem_of_getElem? (i := 207) rfl)) rfl
theorem gw_208 : Jvm.Cond.fieldLink "CoinKeeper$Machine" (22 : Nat) "CoinKeeper$Machine" "scriptEnd" "[I" ∈ gw := gw_of (mt_1 _ (List.mem_of_getElem? (i := 208) rfl)) rfl
theorem gw_209 : Jvm.Cond.fieldLink "CoinKeeper$Machine" (26 : Nat) "CoinKeeper$Machine" "main" "[I" ∈ gw := gw_of (mt_1 _ (List.mem_of_getElem? (i := 209) rfl)) rfl
theorem gw_210 : Jvm.Cond.fieldLink "CoinKeeper$Machine" (29 : Nat) "CoinKeeper$Machine" "other" "[I" ∈ gw := gw_of (mt_1 _ (List.mem_of_getElem? (i := 210) rfl)) rfl
theorem gw_211 : Jvm.Cond.fieldLink "CoinKeeper$Machine" (32 : Nat) "CoinKeeper$Machine" "taken" "[Z" ∈ gw := gw_of (mt_1 _ (List.mem_of_getElem? (i := 211) rfl)) rfl
theorem gw_212 : Jvm.Cond.fieldLink "CoinKeeper$Machine" (73 : Nat) "CoinKeeper$Machine" "height" "I" ∈ gw := gw_of (mt_1 _ (List.mem_of_getElem? (i := 212) rfl)) rfl
theorem gw_213 : Jvm.Cond.fieldLink "CoinKeeper$Machine" (83 : Nat) "CoinKeeper$Machine" "otherHeight" "I" ∈ gw := gw_of (mt_1 _ (List.mem_of_getElem? (i := 213) rfl)) rfl
theorem gw_214 : Jvm.Cond.fieldLink "CoinKeeper$Machine" (86 : Nat) "CoinKeeper$Machine" "ops" "I" ∈ gw := gw_of (mt_1 _ (List.mem_of_getElem? (i := 214) rfl)) rfl
theorem gw_215 : Jvm.Cond.fieldLink "CoinKeeper$Machine" (89 : Nat) "CoinKeeper$Machine" "ifs" "I" ∈ gw := gw_of (mt_1 _ (List.mem_of_getElem? (i := 215) rfl)) rfl
theorem gw_216 : Jvm.Cond.fieldLink "CoinKeeper$Machine" (92 : Nat) "CoinKeeper$Machine" "ifsNotTaken" "I" ∈ gw := gw_of (mt_1 _ (List.mem_of_getElem? (i := 216) rfl)) rfl
theorem gw_217 : Jvm.Cond.fieldLink "CoinKeeper$Machine" (76 : Nat) "CoinKeeper$Machine" "free" "I" ∈ gw := gw_of (mt_1 _ (List.mem_of_getElem? (i := 217) rfl)) rfl
theorem gw_218 : Jvm.Cond.fieldLink "CoinKeeper$Machine" (54 : Nat) "CoinKeeper$Machine" "layout" "LCoinKeeper$Layout;" ∈ gw := gw_of (mt_1 _ (List.mem_of_getElem? (i := 218) rfl)) rfl
theorem gw_219 : Jvm.Cond.fieldLink "CoinKeeper$Machine" (58 : Nat) "CoinKeeper$Machine" "tx" "I" ∈ gw := gw_of (mt_1 _ (List.mem_of_getElem? (i := 219) rfl)) rfl
theorem gw_220 : Jvm.Cond.fieldLink "CoinKeeper$Machine" (62 : Nat) "CoinKeeper$Machine" "in" "I" ∈ gw := gw_of (mt_1 _ (List.mem_of_getElem? (i := 220) rfl)) rfl
theorem gw_221 : Jvm.Cond.fieldLink "CoinKeeper$Machine" (65 : Nat) "CoinKeeper$Machine" "coin" "LCoinKeeper$Coin;" ∈ gw := gw_of (mt_1 _ (List.mem_of_getElem? (i := 221) rfl)) rfl
theorem gw_222 : Jvm.Cond.fieldLink "CoinKeeper$Machine" (69 : Nat) "CoinKeeper$Machine" "messageIsThere" "Z" ∈ gw := gw_of (mt_1 _ (List.mem_of_getElem? (i := 222) rfl)) rfl
theorem gw_223 : Jvm.Cond.laysFinal "CoinKeeper$Machine" "CoinKeeper$Machine" "sha" "LCoinKeeper$Sha256;" ∈ gw := gw_of (mt_1 _ (List.mem_of_getElem? (i := 223) rfl)) rfl
theorem gw_224 : Jvm.Cond.soleField "CoinKeeper$Machine" "sha" ∈ gw := gw_of (mt_1 _ (List.mem_of_getElem? (i := 224) rfl)) rfl
theorem gw_225 : Jvm.Cond.laysFinal "CoinKeeper$Machine" "CoinKeeper$Machine" "signatures" "LCoinKeeper$Signatures;" ∈ gw := gw_of (mt_1 _ (List.mem_of_getElem? (i := 225) rfl)) rfl
theorem gw_226 : Jvm.Cond.soleField "CoinKeeper$Machine" "signatures" ∈ gw := gw_of (mt_1 _ (List.mem_of_getElem? (i := 226) rfl)) rfl
theorem gw_227 : Jvm.Cond.laysFinal "CoinKeeper$Machine" "CoinKeeper$Machine" "ripemd" "LCoinKeeper$Ripemd160;" ∈ gw := gw_of (mt_1 _ (List.mem_of_getElem? (i := 227) rfl)) rfl
theorem gw_228 : Jvm.Cond.soleField "CoinKeeper$Machine" "ripemd" ∈ gw := gw_of (mt_1 _ (List.mem_of_getElem? (i := 228) rfl)) rfl
theorem gw_229 : Jvm.Cond.laysFinal "CoinKeeper$Machine" "CoinKeeper$Machine" "data" "[B" ∈ gw := gw_of (mt_1 _ (List.mem_of_getElem? (i := 229) rfl)) rfl
theorem gw_230 : Jvm.Cond.soleField "CoinKeeper$Machine" "data" ∈ gw := gw_of (mt_1 _ (List.mem_of_getElem? (i := 230) rfl)) rfl
theorem gw_231 : Jvm.Cond.laysFinal "CoinKeeper$Machine" "CoinKeeper$Machine" "scriptEnd" "[I" ∈ gw := gw_of (mt_1 _ (List.mem_of_getElem? (i := 231) rfl)) rfl
theorem gw_232 : Jvm.Cond.soleField "CoinKeeper$Machine" "scriptEnd" ∈ gw := gw_of (mt_1 _ (List.mem_of_getElem? (i := 232) rfl)) rfl
theorem gw_233 : Jvm.Cond.laysFinal "CoinKeeper$Machine" "CoinKeeper$Machine" "main" "[I" ∈ gw := gw_of (mt_1 _ (List.mem_of_getElem? (i := 233) rfl)) rfl
theorem gw_234 : Jvm.Cond.soleField "CoinKeeper$Machine" "main" ∈ gw := gw_of (mt_1 _ (List.mem_of_getElem? (i := 234) rfl)) rfl
theorem gw_235 : Jvm.Cond.laysFinal "CoinKeeper$Machine" "CoinKeeper$Machine" "other" "[I" ∈ gw := gw_of (mt_1 _ (List.mem_of_getElem? (i := 235) rfl)) rfl
theorem gw_236 : Jvm.Cond.soleField "CoinKeeper$Machine" "other" ∈ gw := gw_of (mt_1 _ (List.mem_of_getElem? (i := 236) rfl)) rfl
theorem gw_237 : Jvm.Cond.laysFinal "CoinKeeper$Machine" "CoinKeeper$Machine" "taken" "[Z" ∈ gw := gw_of (mt_1 _ (List.mem_of_getElem? (i := 237) rfl)) rfl
theorem gw_238 : Jvm.Cond.soleField "CoinKeeper$Machine" "taken" ∈ gw := gw_of (mt_1 _ (List.mem_of_getElem? (i := 238) rfl)) rfl
theorem gw_239 : Jvm.Cond.lays "CoinKeeper$Machine" "CoinKeeper$Machine" "height" "I" ∈ gw := gw_of (mt_1 _ (List.mem_of_getElem? (i := 239) rfl)) rfl
theorem gw_240 : Jvm.Cond.soleField "CoinKeeper$Machine" "height" ∈ gw := gw_of (mt_2 _ (List.mem_of_getElem? (i := 0) rfl)) rfl
theorem gw_241 : Jvm.Cond.lays "CoinKeeper$Machine" "CoinKeeper$Machine" "otherHeight" "I" ∈ gw := gw_of (mt_2 _ (List.mem_of_getElem? (i := 1) rfl)) rfl
theorem gw_242 : Jvm.Cond.soleField "CoinKeeper$Machine" "otherHeight" ∈ gw := gw_of (mt_2 _ (List.mem_of_getElem? (i := 2) rfl)) rfl
theorem gw_243 : Jvm.Cond.lays "CoinKeeper$Machine" "CoinKeeper$Machine" "ops" "I" ∈ gw := gw_of (mt_2 _ (List.mem_of_getElem? (i := 3) rfl)) rfl
theorem gw_244 : Jvm.Cond.soleField "CoinKeeper$Machine" "ops" ∈ gw := gw_of (mt_2 _ (List.mem_of_getElem? (i := 4) rfl)) rfl
theorem gw_245 : Jvm.Cond.lays "CoinKeeper$Machine" "CoinKeeper$Machine" "ifs" "I" ∈ gw := gw_of (mt_2 _ (List.mem_of_getElem? (i := 5) rfl)) rfl
theorem gw_246 : Jvm.Cond.soleField "CoinKeeper$Machine" "ifs" ∈ gw := gw_of (mt_2 _ (List.mem_of_getElem? (i := 6) rfl)) rfl
theorem gw_247 : Jvm.Cond.lays "CoinKeeper$Machine" "CoinKeeper$Machine" "ifsNotTaken" "I" ∈ gw := gw_of (mt_2 _ (List.mem_of_getElem? (i := 7) rfl)) rfl
theorem gw_248 : Jvm.Cond.soleField "CoinKeeper$Machine" "ifsNotTaken" ∈ gw := gw_of (mt_2 _ (List.mem_of_getElem? (i := 8) rfl)) rfl
theorem gw_249 : Jvm.Cond.lays "CoinKeeper$Machine" "CoinKeeper$Machine" "free" "I" ∈ gw := gw_of (mt_2 _ (List.mem_of_getElem? (i := 9) rfl)) rfl
theorem gw_250 : Jvm.Cond.soleField "CoinKeeper$Machine" "free" ∈ gw := gw_of (mt_2 _ (List.mem_of_getElem? (i := 10) rfl)) rfl
theorem gw_251 : Jvm.Cond.lays "CoinKeeper$Machine" "CoinKeeper$Machine" "layout" "LCoinKeeper$Layout;" ∈ gw := gw_of (mt_2 _ (List.mem_of_getElem? (i := 11) rfl)) rfl
theorem gw_252 : Jvm.Cond.soleField "CoinKeeper$Machine" "layout" ∈ gw := gw_of (mt_2 _ (List.mem_of_getElem? (i := 12) rfl)) rfl
theorem gw_253 : Jvm.Cond.lays "CoinKeeper$Machine" "CoinKeeper$Machine" "tx" "I" ∈ gw := gw_of (mt_2 _ (List.mem_of_getElem? (i := 13) rfl)) rfl
theorem gw_254 : Jvm.Cond.soleField "CoinKeeper$Machine" "tx" ∈ gw := gw_of (mt_2 _ (List.mem_of_getElem? (i := 14) rfl)) rfl
theorem gw_255 : Jvm.Cond.lays "CoinKeeper$Machine" "CoinKeeper$Machine" "in" "I" ∈ gw := gw_of (mt_2 _ (List.mem_of_getElem? (i := 15) rfl)) rfl
theorem gw_256 : Jvm.Cond.soleField "CoinKeeper$Machine" "in" ∈ gw := gw_of (mt_2 _ (List.mem_of_getElem? (i := 16) rfl)) rfl
theorem gw_257 : Jvm.Cond.lays "CoinKeeper$Machine" "CoinKeeper$Machine" "coin" "LCoinKeeper$Coin;" ∈ gw := gw_of (mt_2 _ (List.mem_of_getElem? (i := 17) rfl)) rfl
theorem gw_258 : Jvm.Cond.soleField "CoinKeeper$Machine" "coin" ∈ gw := gw_of (mt_2 _ (List.mem_of_getElem? (i := 18) rfl)) rfl
theorem gw_259 : Jvm.Cond.lays "CoinKeeper$Machine" "CoinKeeper$Machine" "messageIsThere" "Z" ∈ gw := gw_of (mt_2 _ (List.mem_of_getElem? (i := 19) rfl)) rfl
theorem gw_260 : Jvm.Cond.soleField "CoinKeeper$Machine" "messageIsThere" ∈ gw := gw_of (mt_2 _ (List.mem_of_getElem? (i := 20) rfl)) rfl
theorem gw_261 : Jvm.Cond.superclass "CoinKeeper$Machine" "java/lang/Object" ∈ gw := gw_of (mt_2 _ (List.mem_of_getElem? (i := 21) rfl)) rfl
theorem gw_262 : Jvm.Cond.arrayClass Jvm.ClassFile.FieldType.boolean ∈ gw := gw_of (mt_2 _ (List.mem_of_getElem? (i := 22) rfl)) rfl
theorem gw_263 : Jvm.Cond.classLink "CoinKeeper" (39 : Nat) "CoinKeeper$Layout" ∈ gw := gw_of (mt_2 _ (List.mem_of_getElem? (i := 23) rfl)) rfl
theorem gw_264 : Jvm.Cond.instantiable "CoinKeeper$Layout" (15 : Nat) ∈ gw := gw_of (mt_2 _ (List.mem_of_getElem? (i := 24) rfl)) rfl
theorem mw_265 : Jvm.Cond.methodLinkNest "CoinKeeper" (41 : Nat) ({ cls := "CoinKeeper$Layout", name := "<init>", desc := "()V" } : Jvm.MethodName) "CoinKeeper" ∈ lw_tbl := mt_2 _ (List.mem_of_getElem? (i := 25) rfl)
theorem gw_266 : Jvm.Cond.instanceMethod ({ cls := "CoinKeeper$Layout", name := "<init>", desc := "()V" } : Jvm.MethodName) ∈ gw := gw_of (mt_2 _ (List.mem_of_getElem? (i := 26) rfl)) rfl
theorem gw_267 : Jvm.Cond.code ({ cls := "CoinKeeper$Layout", name := "<init>", desc := "()V" } : Jvm.MethodName) prog_5_method_1_code (1 : Nat) (Option.none : Option Jvm.ClassFile.FieldType) ∈ gw := gw_of (mt_2 _ (List.mem_of_getElem? (i := 27) rfl)) rfl
theorem gw_268 : Jvm.Cond.methodLink "CoinKeeper$Layout" (5 : Nat) ({ cls := "java/lang/Object", name := "<init>", desc := "()V" } : Jvm.MethodName) ∈ gw := gw_of (mt_2 _ (List.mem_of_getElem? (i := 28) rfl)) rfl
theorem gw_269 : Jvm.Cond.fieldLink "CoinKeeper$Layout" (39 : Nat) "CoinKeeper$Layout" "raw" "[B" ∈ gw := gw_of (mt_2 _ (List.mem_of_getElem? (i := 29) rfl)) rfl
theorem gw_270 : Jvm.Cond.fieldLink "CoinKeeper" (313 : Nat) "CoinKeeper$Layout" "raw" "[B" ∈ gw := gw_of (mt_2 _ (List.mem_of_getElem? (i := 30) rfl)) rfl
theorem gw_271 : Jvm.Cond.fieldLink "CoinKeeper$Machine" (214 : Nat) "CoinKeeper$Layout" "raw" "[B" ∈ gw := gw_of (mt_2 _ (List.mem_of_getElem? (i := 31) rfl)) rfl
theorem gw_272 : Jvm.Cond.fieldLink "CoinKeeper$Layout" (50 : Nat) "CoinKeeper$Layout" "txs" "I" ∈ gw := gw_of (mt_2 _ (List.mem_of_getElem? (i := 32) rfl)) rfl
theorem gw_273 : Jvm.Cond.fieldLink "CoinKeeper" (259 : Nat) "CoinKeeper$Layout" "txs" "I" ∈ gw := gw_of (mt_2 _ (List.mem_of_getElem? (i := 33) rfl)) rfl
theorem gw_274 : Jvm.Cond.fieldLink "CoinKeeper$Layout" (11 : Nat) "CoinKeeper$Layout" "txAt" "[I" ∈ gw := gw_of (mt_2 _ (List.mem_of_getElem? (i := 34) rfl)) rfl
theorem gw_275 : Jvm.Cond.fieldLink "CoinKeeper$Machine" (219 : Nat) "CoinKeeper$Layout" "txAt" "[I" ∈ gw := gw_of (mt_2 _ (List.mem_of_getElem? (i := 35) rfl)) rfl
theorem gw_276 : Jvm.Cond.fieldLink "CoinKeeper$Layout" (15 : Nat) "CoinKeeper$Layout" "firstIn" "[I" ∈ gw := gw_of (mt_2 _ (List.mem_of_getElem? (i := 36) rfl)) rfl
theorem gw_277 : Jvm.Cond.fieldLink "CoinKeeper" (294 : Nat) "CoinKeeper$Layout" "firstIn" "[I" ∈ gw := gw_of (mt_2 _ (List.mem_of_getElem? (i := 37) rfl)) rfl
theorem gw_278 : Jvm.Cond.fieldLink "CoinKeeper$Machine" (225 : Nat) "CoinKeeper$Layout" "firstIn" "[I" ∈ gw := gw_of (mt_2 _ (List.mem_of_getElem? (i := 38) rfl)) rfl
theorem gw_279 : Jvm.Cond.fieldLink "CoinKeeper$Layout" (18 : Nat) "CoinKeeper$Layout" "firstOut" "[I" ∈ gw := gw_of (mt_2 _ (List.mem_of_getElem? (i := 39) rfl)) rfl
theorem gw_280 : Jvm.Cond.fieldLink "CoinKeeper$Coin" (35 : Nat) "CoinKeeper$Layout" "firstOut" "[I" ∈ gw := gw_of (mt_2 _ (List.mem_of_getElem? (i := 40) rfl)) rfl
theorem gw_281 : Jvm.Cond.fieldLink "CoinKeeper" (255 : Nat) "CoinKeeper$Layout" "firstOut" "[I" ∈ gw := gw_of (mt_2 _ (List.mem_of_getElem? (i := 41) rfl)) rfl
theorem gw_282 : Jvm.Cond.fieldLink "CoinKeeper$Layout" (21 : Nat) "CoinKeeper$Layout" "inAt" "[I" ∈ gw := gw_of (mt_2 _ (List.mem_of_getElem? (i := 42) rfl)) rfl
theorem gw_283 : Jvm.Cond.fieldLink "CoinKeeper" (297 : Nat) "CoinKeeper$Layout" "inAt" "[I" ∈ gw := gw_of (mt_2 _ (List.mem_of_getElem? (i := 43) rfl)) rfl
theorem gw_284 : Jvm.Cond.fieldLink "CoinKeeper$Machine" (228 : Nat) "CoinKeeper$Layout" "inAt" "[I" ∈ gw := gw_of (mt_2 _ (List.mem_of_getElem? (i := 44) rfl)) rfl
theorem gw_285 : Jvm.Cond.fieldLink "CoinKeeper$Layout" (24 : Nat) "CoinKeeper$Layout" "inScript" "[I" ∈ gw := gw_of (mt_2 _ (List.mem_of_getElem? (i := 45) rfl)) rfl
theorem gw_286 : Jvm.Cond.fieldLink "CoinKeeper" (314 : Nat) "CoinKeeper$Layout" "inScript" "[I" ∈ gw := gw_of (mt_2 _ (List.mem_of_getElem? (i := 46) rfl)) rfl
theorem gw_287 : Jvm.Cond.fieldLink "CoinKeeper$Layout" (27 : Nat) "CoinKeeper$Layout" "inEnd" "[I" ∈ gw := gw_of (mt_2 _ (List.mem_of_getElem? (i := 47) rfl)) rfl
theorem gw_288 : Jvm.Cond.fieldLink "CoinKeeper" (317 : Nat) "CoinKeeper$Layout" "inEnd" "[I" ∈ gw := gw_of (mt_2 _ (List.mem_of_getElem? (i := 48) rfl)) rfl
theorem gw_289 : Jvm.Cond.fieldLink "CoinKeeper$Machine" (252 : Nat) "CoinKeeper$Layout" "inEnd" "[I" ∈ gw := gw_of (mt_2 _ (List.mem_of_getElem? (i := 49) rfl)) rfl
theorem gw_290 : Jvm.Cond.fieldLink "CoinKeeper$Layout" (30 : Nat) "CoinKeeper$Layout" "outAt" "[I" ∈ gw := gw_of (mt_2 _ (List.mem_of_getElem? (i := 50) rfl)) rfl
theorem gw_291 : Jvm.Cond.fieldLink "CoinKeeper$Coin" (55 : Nat) "CoinKeeper$Layout" "outAt" "[I" ∈ gw := gw_of (mt_2 _ (List.mem_of_getElem? (i := 51) rfl)) rfl
theorem gw_292 : Jvm.Cond.fieldLink "CoinKeeper$Layout" (33 : Nat) "CoinKeeper$Layout" "outScript" "[I" ∈ gw := gw_of (mt_2 _ (List.mem_of_getElem? (i := 52) rfl)) rfl
theorem gw_293 : Jvm.Cond.fieldLink "CoinKeeper$Coin" (61 : Nat) "CoinKeeper$Layout" "outScript" "[I" ∈ gw := gw_of (mt_2 _ (List.mem_of_getElem? (i := 53) rfl)) rfl
theorem gw_294 : Jvm.Cond.fieldLink "CoinKeeper$Layout" (36 : Nat) "CoinKeeper$Layout" "outEnd" "[I" ∈ gw := gw_of (mt_2 _ (List.mem_of_getElem? (i := 54) rfl)) rfl
theorem gw_295 : Jvm.Cond.fieldLink "CoinKeeper$Coin" (67 : Nat) "CoinKeeper$Layout" "outEnd" "[I" ∈ gw := gw_of (mt_2 _ (List.mem_of_getElem? (i := 55) rfl)) rfl
theorem gw_296 : Jvm.Cond.fieldLink "CoinKeeper$Layout" (43 : Nat) "CoinKeeper$Layout" "end" "I" ∈ gw := gw_of (mt_2 _ (List.mem_of_getElem? (i := 56) rfl)) rfl
theorem gw_297 : Jvm.Cond.fieldLink "CoinKeeper$Layout" (47 : Nat) "CoinKeeper$Layout" "at" "I" ∈ gw := gw_of (mt_2 _ (List.mem_of_getElem? (i := 57) rfl)) rfl
theorem gw_298 : Jvm.Cond.fieldLink "CoinKeeper$Layout" (53 : Nat) "CoinKeeper$Layout" "ins" "I" ∈ gw := gw_of (mt_2 _ (List.mem_of_getElem? (i := 58) rfl)) rfl
theorem gw_299 : Jvm.Cond.fieldLink "CoinKeeper$Layout" (56 : Nat) "CoinKeeper$Layout" "outs" "I" ∈ gw := gw_of (mt_2 _ (List.mem_of_getElem? (i := 59) rfl)) rfl
theorem gw_300 : Jvm.Cond.lays "CoinKeeper$Layout" "CoinKeeper$Layout" "raw" "[B" ∈ gw := gw_of (mt_2 _ (List.mem_of_getElem? (i := 60) rfl)) rfl
theorem gw_301 : Jvm.Cond.soleField "CoinKeeper$Layout" "raw" ∈ gw := gw_of (mt_2 _ (List.mem_of_getElem? (i := 61) rfl)) rfl
theorem gw_302 : Jvm.Cond.lays "CoinKeeper$Layout" "CoinKeeper$Layout" "txs" "I" ∈ gw := gw_of (mt_2 _ (List.mem_of_getElem? (i := 62) rfl)) rfl
theorem gw_303 : Jvm.Cond.soleField "CoinKeeper$Layout" "txs" ∈ gw := gw_of (mt_2 _ (List.mem_of_getElem? (i := 63) rfl)) rfl
theorem gw_304 : Jvm.Cond.laysFinal "CoinKeeper$Layout" "CoinKeeper$Layout" "txAt" "[I" ∈ gw := gw_of (mt_2 _ (List.mem_of_getElem? (i := 64) rfl)) rfl
theorem gw_305 : Jvm.Cond.soleField "CoinKeeper$Layout" "txAt" ∈ gw := gw_of (mt_2 _ (List.mem_of_getElem? (i := 65) rfl)) rfl
theorem gw_306 : Jvm.Cond.laysFinal "CoinKeeper$Layout" "CoinKeeper$Layout" "firstIn" "[I" ∈ gw := gw_of (mt_2 _ (List.mem_of_getElem? (i := 66) rfl)) rfl
theorem gw_307 : Jvm.Cond.soleField "CoinKeeper$Layout" "firstIn" ∈ gw := gw_of (mt_2 _ (List.mem_of_getElem? (i := 67) rfl)) rfl
theorem gw_308 : Jvm.Cond.laysFinal "CoinKeeper$Layout" "CoinKeeper$Layout" "firstOut" "[I" ∈ gw := gw_of (mt_2 _ (List.mem_of_getElem? (i := 68) rfl)) rfl
theorem gw_309 : Jvm.Cond.soleField "CoinKeeper$Layout" "firstOut" ∈ gw := gw_of (mt_2 _ (List.mem_of_getElem? (i := 69) rfl)) rfl
theorem gw_310 : Jvm.Cond.laysFinal "CoinKeeper$Layout" "CoinKeeper$Layout" "inAt" "[I" ∈ gw := gw_of (mt_2 _ (List.mem_of_getElem? (i := 70) rfl)) rfl
theorem gw_311 : Jvm.Cond.soleField "CoinKeeper$Layout" "inAt" ∈ gw := gw_of (mt_2 _ (List.mem_of_getElem? (i := 71) rfl)) rfl
theorem gw_312 : Jvm.Cond.laysFinal "CoinKeeper$Layout" "CoinKeeper$Layout" "inScript" "[I" ∈ gw := gw_of (mt_2 _ (List.mem_of_getElem? (i := 72) rfl)) rfl
theorem gw_313 : Jvm.Cond.soleField "CoinKeeper$Layout" "inScript" ∈ gw := gw_of (mt_2 _ (List.mem_of_getElem? (i := 73) rfl)) rfl
theorem gw_314 : Jvm.Cond.laysFinal "CoinKeeper$Layout" "CoinKeeper$Layout" "inEnd" "[I" ∈ gw := gw_of (mt_2 _ (List.mem_of_getElem? (i := 74) rfl)) rfl
theorem gw_315 : Jvm.Cond.soleField "CoinKeeper$Layout" "inEnd" ∈ gw := gw_of (mt_2 _ (List.mem_of_getElem? (i := 75) rfl)) rfl
theorem gw_316 : Jvm.Cond.laysFinal "CoinKeeper$Layout" "CoinKeeper$Layout" "outAt" "[I" ∈ gw := gw_of (mt_2 _ (List.mem_of_getElem? (i := 76) rfl)) rfl
theorem gw_317 : Jvm.Cond.soleField "CoinKeeper$Layout" "outAt" ∈ gw := gw_of (mt_2 _ (List.mem_of_getElem? (i := 77) rfl)) rfl
theorem gw_318 : Jvm.Cond.laysFinal "CoinKeeper$Layout" "CoinKeeper$Layout" "outScript" "[I" ∈ gw := gw_of (mt_2 _ (List.mem_of_getElem? (i := 78) rfl)) rfl
theorem gw_319 : Jvm.Cond.soleField "CoinKeeper$Layout" "outScript" ∈ gw := gw_of (mt_2 _ (List.mem_of_getElem? (i := 79) rfl)) rfl
theorem gw_320 : Jvm.Cond.laysFinal "CoinKeeper$Layout" "CoinKeeper$Layout" "outEnd" "[I" ∈ gw := gw_of (mt_2 _ (List.mem_of_getElem? (i := 80) rfl)) rfl
theorem gw_321 : Jvm.Cond.soleField "CoinKeeper$Layout" "outEnd" ∈ gw := gw_of (mt_2 _ (List.mem_of_getElem? (i := 81) rfl)) rfl
theorem gw_322 : Jvm.Cond.lays "CoinKeeper$Layout" "CoinKeeper$Layout" "end" "I" ∈ gw := gw_of (mt_2 _ (List.mem_of_getElem? (i := 82) rfl)) rfl
theorem gw_323 : Jvm.Cond.soleField "CoinKeeper$Layout" "end" ∈ gw := gw_of (mt_2 _ (List.mem_of_getElem? (i := 83) rfl)) rfl
theorem gw_324 : Jvm.Cond.lays "CoinKeeper$Layout" "CoinKeeper$Layout" "at" "I" ∈ gw := gw_of (mt_2 _ (List.mem_of_getElem? (i := 84) rfl)) rfl
theorem gw_325 : Jvm.Cond.soleField "CoinKeeper$Layout" "at" ∈ gw := gw_of (mt_2 _ (List.mem_of_getElem? (i := 85) rfl)) rfl
theorem gw_326 : Jvm.Cond.lays "CoinKeeper$Layout" "CoinKeeper$Layout" "ins" "I" ∈ gw := gw_of (mt_2 _ (List.mem_of_getElem? (i := 86) rfl)) rfl
theorem gw_327 : Jvm.Cond.soleField "CoinKeeper$Layout" "ins" ∈ gw := gw_of (mt_2 _ (List.mem_of_getElem? (i := 87) rfl)) rfl
theorem gw_328 : Jvm.Cond.lays "CoinKeeper$Layout" "CoinKeeper$Layout" "outs" "I" ∈ gw := gw_of (mt_2 _ (List.mem_of_getElem? (i := 88) rfl)) rfl
theorem gw_329 : Jvm.Cond.soleField "CoinKeeper$Layout" "outs" ∈ gw := gw_of (mt_2 _ (List.mem_of_getElem? (i := 89) rfl)) rfl
theorem gw_330 : Jvm.Cond.superclass "CoinKeeper$Layout" "java/lang/Object" ∈ gw := gw_of (mt_2 _ (List.mem_of_getElem? (i := 90) rfl)) rfl
theorem gw_331 : Jvm.Cond.classLink "CoinKeeper" (46 : Nat) "CoinKeeper$Ledger" ∈ gw := gw_of (mt_2 _ (List.mem_of_getElem? (i := 91) rfl)) rfl
theorem gw_332 : Jvm.Cond.instantiable "CoinKeeper$Ledger" (2 : Nat) ∈ gw := gw_of (mt_2 _ (List.mem_of_getElem? (i := 92) rfl)) rfl
theorem mw_333 : Jvm.Cond.methodLinkNest "CoinKeeper" (48 : Nat) ({ cls := "CoinKeeper$Ledger", name := "<init>", desc := "()V" } : Jvm.MethodName) "CoinKeeper" ∈ lw_tbl := mt_2 _ (List.mem_of_getElem? (i := 93) rfl)
theorem gw_334 : Jvm.Cond.instanceMethod ({ cls := "CoinKeeper$Ledger", name := "<init>", desc := "()V" } : Jvm.MethodName) ∈ gw := gw_of (mt_2 _ (List.mem_of_getElem? (i := 94) rfl)) rfl
theorem gw_335 : Jvm.Cond.code ({ cls := "CoinKeeper$Ledger", name := "<init>", desc := "()V" } : Jvm.MethodName) prog_6_method_1_code (1 : Nat) (Option.none : Option Jvm.ClassFile.FieldType) ∈ gw := gw_of (mt_2 _ (List.mem_of_getElem? (i := 95) rfl)) rfl
theorem gw_336 : Jvm.Cond.methodLink "CoinKeeper$Ledger" (1 : Nat) ({ cls := "java/lang/Object", name := "<init>", desc := "()V" } : Jvm.MethodName) ∈ gw := gw_of (mt_2 _ (List.mem_of_getElem? (i := 96) rfl)) rfl
theorem gw_337 : Jvm.Cond.classLink "CoinKeeper$Ledger" (7 : Nat) "java/util/ArrayList" ∈ gw := gw_of (mt_2 _ (List.mem_of_getElem? (i := 97) rfl)) rfl
theorem gw_338 : Jvm.Cond.instantiable "java/util/ArrayList" (3 : Nat) ∈ gw := gw_of (mt_2 _ (List.mem_of_getElem? (i := 98) rfl)) rfl
theorem gw_339 : Jvm.Cond.methodLink "CoinKeeper$Ledger" (9 : Nat) ({ cls := "java/util/ArrayList", name := "<init>", desc := "()V" } : Jvm.MethodName) ∈ gw := gw_of (mt_2 _ (List.mem_of_getElem? (i := 99) rfl)) rfl
theorem gw_340 : Jvm.Cond.instanceMethod ({ cls := "java/util/ArrayList", name := "<init>", desc := "()V" } : Jvm.MethodName) ∈ gw := gw_of (mt_2 _ (List.mem_of_getElem? (i := 100) rfl)) rfl
theorem gw_341 : Jvm.Cond.code ({ cls := "java/util/ArrayList", name := "<init>", desc := "()V" } : Jvm.MethodName) prog_28_method_2_code (1 : Nat) (Option.none : Option Jvm.ClassFile.FieldType) ∈ gw := gw_of (mt_2 _ (List.mem_of_getElem? (i := 101) rfl)) rfl
theorem gw_342 : Jvm.Cond.methodLink "java/util/ArrayList" (1 : Nat) ({ cls := "java/util/AbstractList", name := "<init>", desc := "()V" } : Jvm.MethodName) ∈ gw := gw_of (mt_2 _ (List.mem_of_getElem? (i := 102) rfl)) rfl
theorem gw_343 : Jvm.Cond.instanceMethod ({ cls := "java/util/AbstractList", name := "<init>", desc := "()V" } : Jvm.MethodName) ∈ gw := gw_of (mt_2 _ (List.mem_of_getElem? (i := 103) rfl)) rfl
theorem gw_344 : Jvm.Cond.code ({ cls := "java/util/AbstractList", name := "<init>", desc := "()V" } : Jvm.MethodName) prog_27_method_1_code (1 : Nat) (Option.none : Option Jvm.ClassFile.FieldType) ∈ gw := gw_of (mt_2 _ (List.mem_of_getElem? (i := 104) rfl)) rfl
theorem gw_345 : Jvm.Cond.methodLink "java/util/AbstractList" (1 : Nat) ({ cls := "java/util/AbstractCollection", name := "<init>", desc := "()V" } : Jvm.MethodName) ∈ gw := gw_of (mt_2 _ (List.mem_of_getElem? (i := 105) rfl)) rfl
theorem gw_346 : Jvm.Cond.instanceMethod ({ cls := "java/util/AbstractCollection", name := "<init>", desc := "()V" } : Jvm.MethodName) ∈ gw := gw_of (mt_2 _ (List.mem_of_getElem? (i := 106) rfl)) rfl
theorem gw_347 : Jvm.Cond.code ({ cls := "java/util/AbstractCollection", name := "<init>", desc := "()V" } : Jvm.MethodName) prog_26_method_1_code (1 : Nat) (Option.none : Option Jvm.ClassFile.FieldType) ∈ gw := gw_of (mt_2 _ (List.mem_of_getElem? (i := 107) rfl)) rfl
theorem gw_348 : Jvm.Cond.methodLink "java/util/AbstractCollection" (1 : Nat) ({ cls := "java/lang/Object", name := "<init>", desc := "()V" } : Jvm.MethodName) ∈ gw := gw_of (mt_2 _ (List.mem_of_getElem? (i := 108) rfl)) rfl
theorem gw_349 : Jvm.Cond.fieldLink "java/util/ArrayList" (39 : Nat) "java/util/ArrayList" "DEFAULTCAPACITY_EMPTY_ELEMENTDATA" "[Ljava/lang/Object;" ∈ gw := gw_of (mt_2 _ (List.mem_of_getElem? (i := 109) rfl)) rfl
theorem mw_350 : Jvm.Cond.laysStatic "java/util/ArrayList" "DEFAULTCAPACITY_EMPTY_ELEMENTDATA" "[Ljava/lang/Object;" ∈ lw_tbl := mt_2 _ (List.mem_of_getElem? (i := 110) rfl)
theorem gw_351 : Jvm.Cond.fieldLink "java/util/ArrayList" (9 : Nat) "java/util/ArrayList" "elementData" "[Ljava/lang/Object;" ∈ gw := gw_of (mt_2 _ (List.mem_of_getElem? (i := 111) rfl)) rfl
theorem gw_352 : Jvm.Cond.fieldLink "java/util/ArrayList" (48 : Nat) "java/util/ArrayList" "size" "I" ∈ gw := gw_of (mt_2 _ (List.mem_of_getElem? (i := 112) rfl)) rfl
theorem gw_353 : Jvm.Cond.fieldLink "java/util/AbstractList" (7 : Nat) "java/util/AbstractList" "modCount" "I" ∈ gw := gw_of (mt_2 _ (List.mem_of_getElem? (i := 113) rfl)) rfl
theorem gw_354 : Jvm.Cond.fieldLink "java/util/ArrayList" (63 : Nat) "java/util/ArrayList" "modCount" "I" ∈ gw := gw_of (mt_2 _ (List.mem_of_getElem? (i := 114) rfl)) rfl
theorem gw_355 : Jvm.Cond.sameField "java/util/ArrayList" "java/util/AbstractList" "modCount" "I" ∈ gw := gw_of (mt_2 _ (List.mem_of_getElem? (i := 115) rfl)) rfl
theorem gw_356 : Jvm.Cond.lays "java/util/ArrayList" "java/util/ArrayList" "elementData" "[Ljava/lang/Object;" ∈ gw := gw_of (mt_2 _ (List.mem_of_getElem? (i := 116) rfl)) rfl
theorem gw_357 : Jvm.Cond.soleField "java/util/ArrayList" "elementData" ∈ gw := gw_of (mt_2 _ (List.mem_of_getElem? (i := 117) rfl)) rfl
theorem gw_358 : Jvm.Cond.lays "java/util/ArrayList" "java/util/ArrayList" "size" "I" ∈ gw := gw_of (mt_2 _ (List.mem_of_getElem? (i := 118) rfl)) rfl
theorem gw_359 : Jvm.Cond.soleField "java/util/ArrayList" "size" ∈ gw := gw_of (mt_2 _ (List.mem_of_getElem? (i := 119) rfl)) rfl
theorem gw_360 : Jvm.Cond.lays "java/util/ArrayList" "java/util/AbstractList" "modCount" "I" ∈ gw := gw_of (mt_2 _ (List.mem_of_getElem? (i := 120) rfl)) rfl
theorem gw_361 : Jvm.Cond.soleField "java/util/AbstractList" "modCount" ∈ gw := gw_of (mt_2 _ (List.mem_of_getElem? (i := 121) rfl)) rfl
theorem gw_362 : Jvm.Cond.superclass "java/util/ArrayList" "java/util/AbstractList" ∈ gw := gw_of (mt_2 _ (List.mem_of_getElem? (i := 122) rfl)) rfl
theorem gw_363 : Jvm.Cond.fieldLink "CoinKeeper$Ledger" (10 : Nat) "CoinKeeper$Ledger" "unspent" "Ljava/util/ArrayList;" ∈ gw := gw_of (mt_2 _ (List.mem_of_getElem? (i := 123) rfl)) rfl
theorem gw_364 : Jvm.Cond.fieldLink "CoinKeeper$Ledger" (16 : Nat) "CoinKeeper$Ledger" "changes" "Ljava/util/ArrayList;" ∈ gw := gw_of (mt_2 _ (List.mem_of_getElem? (i := 124) rfl)) rfl
theorem gw_365 : Jvm.Cond.laysFinal "CoinKeeper$Ledger" "CoinKeeper$Ledger" "unspent" "Ljava/util/ArrayList;" ∈ gw := gw_of (mt_2 _ (List.mem_of_getElem? (i := 125) rfl)) rfl
theorem gw_366 : Jvm.Cond.soleField "CoinKeeper$Ledger" "unspent" ∈ gw := gw_of (mt_2 _ (List.mem_of_getElem? (i := 126) rfl)) rfl
theorem gw_367 : Jvm.Cond.laysFinal "CoinKeeper$Ledger" "CoinKeeper$Ledger" "changes" "Ljava/util/ArrayList;" ∈ gw := gw_of (mt_2 _ (List.mem_of_getElem? (i := 127) rfl)) rfl
theorem gw_368 : Jvm.Cond.soleField "CoinKeeper$Ledger" "changes" ∈ gw := gw_of (mt_2 _ (List.mem_of_getElem? (i := 128) rfl)) rfl
theorem gw_369 : Jvm.Cond.superclass "CoinKeeper$Ledger" "java/lang/Object" ∈ gw := gw_of (mt_2 _ (List.mem_of_getElem? (i := 129) rfl)) rfl
theorem gw_370 : Jvm.Cond.classLink "CoinKeeper" (53 : Nat) "java/util/ArrayList" ∈ gw := gw_of (mt_2 _ (List.mem_of_getElem? (i := 130) rfl)) rfl
theorem gw_371 : Jvm.Cond.methodLink "CoinKeeper" (55 : Nat) ({ cls := "java/util/ArrayList", name := "<init>", desc := "()V" } : Jvm.MethodName) ∈ gw := gw_of (mt_2 _ (List.mem_of_getElem? (i := 131) rfl)) rfl
theorem gw_372 : Jvm.Cond.classLink "CoinKeeper" (60 : Nat) "CoinKeeper$Coin" ∈ gw := gw_of (mt_2 _ (List.mem_of_getElem? (i := 132) rfl)) rfl
theorem mw_373 : Jvm.Cond.arrayOver (Jvm.ClassFile.FieldType.object "CoinKeeper$Coin") ∈ lw_tbl := mt_2 _ (List.mem_of_getElem? (i := 133) rfl)
theorem gw_374 : Jvm.Cond.classLink "CoinKeeper" (66 : Nat) "CoinKeeper$Block" ∈ gw := gw_of (mt_2 _ (List.mem_of_getElem? (i := 134) rfl)) rfl
theorem gw_375 : Jvm.Cond.instantiable "CoinKeeper$Block" (12 : Nat) ∈ gw := gw_of (mt_2 _ (List.mem_of_getElem? (i := 135) rfl)) rfl
theorem gw_376 : Jvm.Cond.methodLink "CoinKeeper" (68 : Nat) ({ cls := "CoinKeeper$Block", name := "<init>", desc := "(LCoinKeeper$Block;[B[B[B)V" } : Jvm.MethodName) ∈ gw := gw_of (mt_2 _ (List.mem_of_getElem? (i := 136) rfl)) rfl
theorem gw_377 : Jvm.Cond.instanceMethod ({ cls := "CoinKeeper$Block", name := "<init>", desc := "(LCoinKeeper$Block;[B[B[B)V" } : Jvm.MethodName) ∈ gw := gw_of (mt_2 _ (List.mem_of_getElem? (i := 137) rfl)) rfl
theorem gw_378 : Jvm.Cond.code ({ cls := "CoinKeeper$Block", name := "<init>", desc := "(LCoinKeeper$Block;[B[B[B)V" } : Jvm.MethodName) prog_2_method_1_code (6 : Nat) (Option.none : Option Jvm.ClassFile.FieldType) ∈ gw := gw_of (mt_2 _ (List.mem_of_getElem? (i := 138) rfl)) rfl
theorem gw_379 : Jvm.Cond.methodLink "CoinKeeper$Block" (1 : Nat) ({ cls := "java/lang/Object", name := "<init>", desc := "()V" } : Jvm.MethodName) ∈ gw := gw_of (mt_2 _ (List.mem_of_getElem? (i := 139) rfl)) rfl
theorem gw_380 : Jvm.Cond.constantLong "CoinKeeper$Block" (27 : Nat) (1000000 : Int64) ∈ gw := gw_of (mt_2 _ (List.mem_of_getElem? (i := 140) rfl)) rfl
theorem mw_381 : Jvm.Cond.methodLinkNest "CoinKeeper$Block" (29 : Nat) ({ cls := "CoinKeeper", name := "word", desc := "([BI)I" } : Jvm.MethodName) "CoinKeeper" ∈ lw_tbl := mt_2 _ (List.mem_of_getElem? (i := 141) rfl)
theorem gw_382 : Jvm.Cond.static ({ cls := "CoinKeeper", name := "word", desc := "([BI)I" } : Jvm.MethodName) ∈ gw := gw_of (mt_2 _ (List.mem_of_getElem? (i := 142) rfl)) rfl
theorem gw_383 : Jvm.Cond.code ({ cls := "CoinKeeper", name := "word", desc := "([BI)I" } : Jvm.MethodName) prog_1_method_24_code (2 : Nat) (Option.some Jvm.ClassFile.FieldType.int) ∈ gw := gw_of (mt_2 _ (List.mem_of_getElem? (i := 143) rfl)) rfl
theorem gw_384 : Jvm.Cond.constantLong "CoinKeeper$Block" (35 : Nat) (4294967295 : Int64) ∈ gw := gw_of (mt_2 _ (List.mem_of_getElem? (i := 144) rfl)) rfl
theorem gw_385 : Jvm.Cond.constant "CoinKeeper$Block" (41 : Nat) (545259519 : Int32) ∈ gw := gw_of (mt_2 _ (List.mem_of_getElem? (i := 145) rfl)) rfl
theorem gw_386 : Jvm.Cond.methodLink "CoinKeeper$Block" (45 : Nat) ({ cls := "CoinKeeper$Block", name := "workOf", desc := "(I)J" } : Jvm.MethodName) ∈ gw := gw_of (mt_2 _ (List.mem_of_getElem? (i := 146) rfl)) rfl
theorem gw_387 : Jvm.Cond.static ({ cls := "CoinKeeper$Block", name := "workOf", desc := "(I)J" } : Jvm.MethodName) ∈ gw := gw_of (mt_2 _ (List.mem_of_getElem? (i := 147) rfl)) rfl
theorem gw_388 : Jvm.Cond.code ({ cls := "CoinKeeper$Block", name := "workOf", desc := "(I)J" } : Jvm.MethodName) prog_2_method_8_code (8 : Nat) (Option.some Jvm.ClassFile.FieldType.long) ∈ gw := gw_of (mt_2 _ (List.mem_of_getElem? (i := 148) rfl)) rfl
theorem gw_389 : Jvm.Cond.constant "CoinKeeper$Block" (85 : Nat) (8388607 : Int32) ∈ gw := gw_of (mt_2 _ (List.mem_of_getElem? (i := 149) rfl)) rfl
theorem gw_390 : Jvm.Cond.fieldLink "CoinKeeper$Block" (7 : Nat) "CoinKeeper$Block" "before" "LCoinKeeper$Block;" ∈ gw := gw_of (mt_2 _ (List.mem_of_getElem? (i := 150) rfl)) rfl
theorem gw_391 : Jvm.Cond.fieldLink "CoinKeeper" (330 : Nat) "CoinKeeper$Block" "before" "LCoinKeeper$Block;" ∈ gw := gw_of (mt_2 _ (List.mem_of_getElem? (i := 151) rfl)) rfl
theorem gw_392 : Jvm.Cond.fieldLink "CoinKeeper$Block" (13 : Nat) "CoinKeeper$Block" "raw" "[B" ∈ gw := gw_of (mt_2 _ (List.mem_of_getElem? (i := 152) rfl)) rfl
theorem gw_393 : Jvm.Cond.fieldLink "CoinKeeper" (268 : Nat) "CoinKeeper$Block" "raw" "[B" ∈ gw := gw_of (mt_2 _ (List.mem_of_getElem? (i := 153) rfl)) rfl
theorem gw_394 : Jvm.Cond.fieldLink "CoinKeeper$Machine" (241 : Nat) "CoinKeeper$Block" "raw" "[B" ∈ gw := gw_of (mt_2 _ (List.mem_of_getElem? (i := 154) rfl)) rfl
theorem gw_395 : Jvm.Cond.fieldLink "CoinKeeper$Block" (17 : Nat) "CoinKeeper$Block" "id" "[B" ∈ gw := gw_of (mt_2 _ (List.mem_of_getElem? (i := 155) rfl)) rfl
theorem gw_396 : Jvm.Cond.fieldLink "CoinKeeper" (170 : Nat) "CoinKeeper$Block" "id" "[B" ∈ gw := gw_of (mt_2 _ (List.mem_of_getElem? (i := 156) rfl)) rfl
theorem gw_397 : Jvm.Cond.fieldLink "CoinKeeper$Block" (20 : Nat) "CoinKeeper$Block" "ids" "[B" ∈ gw := gw_of (mt_2 _ (List.mem_of_getElem? (i := 157) rfl)) rfl
theorem gw_398 : Jvm.Cond.fieldLink "CoinKeeper$Coin" (20 : Nat) "CoinKeeper$Block" "ids" "[B" ∈ gw := gw_of (mt_2 _ (List.mem_of_getElem? (i := 158) rfl)) rfl
theorem gw_399 : Jvm.Cond.fieldLink "CoinKeeper$Ledger" (46 : Nat) "CoinKeeper$Block" "ids" "[B" ∈ gw := gw_of (mt_2 _ (List.mem_of_getElem? (i := 159) rfl)) rfl
theorem gw_400 : Jvm.Cond.fieldLink "CoinKeeper$Block" (23 : Nat) "CoinKeeper$Block" "height" "I" ∈ gw := gw_of (mt_2 _ (List.mem_of_getElem? (i := 160) rfl)) rfl
theorem gw_401 : Jvm.Cond.fieldLink "CoinKeeper" (123 : Nat) "CoinKeeper$Block" "height" "I" ∈ gw := gw_of (mt_2 _ (List.mem_of_getElem? (i := 161) rfl)) rfl
theorem gw_402 : Jvm.Cond.fieldLink "CoinKeeper$Block" (37 : Nat) "CoinKeeper$Block" "time" "J" ∈ gw := gw_of (mt_2 _ (List.mem_of_getElem? (i := 162) rfl)) rfl
theorem gw_403 : Jvm.Cond.fieldLink "CoinKeeper" (171 : Nat) "CoinKeeper$Block" "time" "J" ∈ gw := gw_of (mt_2 _ (List.mem_of_getElem? (i := 163) rfl)) rfl
theorem gw_404 : Jvm.Cond.fieldLink "CoinKeeper$Block" (42 : Nat) "CoinKeeper$Block" "bits" "I" ∈ gw := gw_of (mt_2 _ (List.mem_of_getElem? (i := 164) rfl)) rfl
theorem gw_405 : Jvm.Cond.fieldLink "CoinKeeper" (174 : Nat) "CoinKeeper$Block" "bits" "I" ∈ gw := gw_of (mt_2 _ (List.mem_of_getElem? (i := 165) rfl)) rfl
theorem gw_406 : Jvm.Cond.fieldLink "CoinKeeper$Block" (49 : Nat) "CoinKeeper$Block" "work" "J" ∈ gw := gw_of (mt_2 _ (List.mem_of_getElem? (i := 166) rfl)) rfl
theorem gw_407 : Jvm.Cond.fieldLink "CoinKeeper" (109 : Nat) "CoinKeeper$Block" "work" "J" ∈ gw := gw_of (mt_2 _ (List.mem_of_getElem? (i := 167) rfl)) rfl
theorem gw_408 : Jvm.Cond.fieldLink "CoinKeeper" (262 : Nat) "CoinKeeper$Block" "coins" "[LCoinKeeper$Coin;" ∈ gw := gw_of (mt_2 _ (List.mem_of_getElem? (i := 168) rfl)) rfl
theorem gw_409 : Jvm.Cond.fieldLink "CoinKeeper" (213 : Nat) "CoinKeeper$Block" "bad" "Z" ∈ gw := gw_of (mt_2 _ (List.mem_of_getElem? (i := 169) rfl)) rfl
theorem gw_410 : Jvm.Cond.fieldLink "CoinKeeper" (133 : Nat) "CoinKeeper$Block" "valid" "Z" ∈ gw := gw_of (mt_2 _ (List.mem_of_getElem? (i := 170) rfl)) rfl
theorem gw_411 : Jvm.Cond.fieldLink "CoinKeeper" (117 : Nat) "CoinKeeper$Block" "mark" "I" ∈ gw := gw_of (mt_2 _ (List.mem_of_getElem? (i := 171) rfl)) rfl
theorem gw_412 : Jvm.Cond.laysFinal "CoinKeeper$Block" "CoinKeeper$Block" "before" "LCoinKeeper$Block;" ∈ gw := gw_of (mt_2 _ (List.mem_of_getElem? (i := 172) rfl)) rfl
theorem gw_413 : Jvm.Cond.soleField "CoinKeeper$Block" "before" ∈ gw := gw_of (mt_2 _ (List.mem_of_getElem? (i := 173) rfl)) rfl
theorem gw_414 : Jvm.Cond.laysFinal "CoinKeeper$Block" "CoinKeeper$Block" "raw" "[B" ∈ gw := gw_of (mt_2 _ (List.mem_of_getElem? (i := 174) rfl)) rfl
theorem gw_415 : Jvm.Cond.soleField "CoinKeeper$Block" "raw" ∈ gw := gw_of (mt_2 _ (List.mem_of_getElem? (i := 175) rfl)) rfl
theorem gw_416 : Jvm.Cond.laysFinal "CoinKeeper$Block" "CoinKeeper$Block" "id" "[B" ∈ gw := gw_of (mt_2 _ (List.mem_of_getElem? (i := 176) rfl)) rfl
theorem gw_417 : Jvm.Cond.soleField "CoinKeeper$Block" "id" ∈ gw := gw_of (mt_2 _ (List.mem_of_getElem? (i := 177) rfl)) rfl
theorem gw_418 : Jvm.Cond.laysFinal "CoinKeeper$Block" "CoinKeeper$Block" "ids" "[B" ∈ gw := gw_of (mt_2 _ (List.mem_of_getElem? (i := 178) rfl)) rfl
theorem gw_419 : Jvm.Cond.soleField "CoinKeeper$Block" "ids" ∈ gw := gw_of (mt_2 _ (List.mem_of_getElem? (i := 179) rfl)) rfl
theorem gw_420 : Jvm.Cond.laysFinal "CoinKeeper$Block" "CoinKeeper$Block" "height" "I" ∈ gw := gw_of (mt_2 _ (List.mem_of_getElem? (i := 180) rfl)) rfl
theorem gw_421 : Jvm.Cond.soleField "CoinKeeper$Block" "height" ∈ gw := gw_of (mt_2 _ (List.mem_of_getElem? (i := 181) rfl)) rfl
theorem gw_422 : Jvm.Cond.laysFinal "CoinKeeper$Block" "CoinKeeper$Block" "time" "J" ∈ gw := gw_of (mt_2 _ (List.mem_of_getElem? (i := 182) rfl)) rfl
theorem gw_423 : Jvm.Cond.soleField "CoinKeeper$Block" "time" ∈ gw := gw_of (mt_2 _ (List.mem_of_getElem? (i := 183) rfl)) rfl
theorem gw_424 : Jvm.Cond.laysFinal "CoinKeeper$Block" "CoinKeeper$Block" "bits" "I" ∈ gw := gw_of (mt_2 _ (List.mem_of_getElem? (i := 184) rfl)) rfl
theorem gw_425 : Jvm.Cond.soleField "CoinKeeper$Block" "bits" ∈ gw := gw_of (mt_2 _ (List.mem_of_getElem? (i := 185) rfl)) rfl
theorem gw_426 : Jvm.Cond.laysFinal "CoinKeeper$Block" "CoinKeeper$Block" "work" "J" ∈ gw := gw_of (mt_2 _ (List.mem_of_getElem? (i := 186) rfl)) rfl
theorem gw_427 : Jvm.Cond.soleField "CoinKeeper$Block" "work" ∈ gw := gw_of (mt_2 _ (List.mem_of_getElem? (i := 187) rfl)) rfl
theorem gw_428 : Jvm.Cond.lays "CoinKeeper$Block" "CoinKeeper$Block" "coins" "[LCoinKeeper$Coin;" ∈ gw := gw_of (mt_2 _ (List.mem_of_getElem? (i := 188) rfl)) rfl
theorem gw_429 : Jvm.Cond.soleField "CoinKeeper$Block" "coins" ∈ gw := gw_of (mt_2 _ (List.mem_of_getElem? (i := 189) rfl)) rfl
theorem gw_430 : Jvm.Cond.lays "CoinKeeper$Block" "CoinKeeper$Block" "bad" "Z" ∈ gw := gw_of (mt_2 _ (List.mem_of_getElem? (i := 190) rfl)) rfl
theorem gw_431 : Jvm.Cond.soleField "CoinKeeper$Block" "bad" ∈ gw := gw_of (mt_2 _ (List.mem_of_getElem? (i := 191) rfl)) rfl
theorem gw_432 : Jvm.Cond.lays "CoinKeeper$Block" "CoinKeeper$Block" "valid" "Z" ∈ gw := gw_of (mt_2 _ (List.mem_of_getElem? (i := 192) rfl)) rfl
theorem gw_433 : Jvm.Cond.soleField "CoinKeeper$Block" "valid" ∈ gw := gw_of (mt_2 _ (List.mem_of_getElem? (i := 193) rfl)) rfl
theorem gw_434 : Jvm.Cond.lays "CoinKeeper$Block" "CoinKeeper$Block" "mark" "I" ∈ gw := gw_of (mt_2 _ (List.mem_of_getElem? (i := 194) rfl)) rfl
theorem gw_435 : Jvm.Cond.soleField "CoinKeeper$Block" "mark" ∈ gw := gw_of (mt_2 _ (List.mem_of_getElem? (i := 195) rfl)) rfl
theorem gw_436 : Jvm.Cond.superclass "CoinKeeper$Block" "java/lang/Object" ∈ gw := gw_of (mt_2 _ (List.mem_of_getElem? (i := 196) rfl)) rfl
theorem gw_437 : Jvm.Cond.methodLink "CoinKeeper" (75 : Nat) ({ cls := "java/util/ArrayList", name := "add", desc := "(Ljava/lang/Object;)Z" } : Jvm.MethodName) ∈ gw := gw_of (mt_2 _ (List.mem_of_getElem? (i := 197) rfl)) rfl
theorem gw_438 : Jvm.Cond.instanceMethod ({ cls := "java/util/ArrayList", name := "add", desc := "(Ljava/lang/Object;)Z" } : Jvm.MethodName) ∈ gw := gw_of (mt_2 _ (List.mem_of_getElem? (i := 198) rfl)) rfl
theorem gw_439 : Jvm.Cond.selects "java/util/ArrayList" ({ cls := "java/util/ArrayList", name := "add", desc := "(Ljava/lang/Object;)Z" } : Jvm.MethodName) ({ cls := "java/util/ArrayList", name := "add", desc := "(Ljava/lang/Object;)Z" } : Jvm.MethodName) ∈ gw := gw_of (mt_2 _ (List.mem_of_getElem? (i := 199) rfl)) rfl
theorem gw_440 : Jvm.Cond.code ({ cls := "java/util/ArrayList", name := "add", desc := "(Ljava/lang/Object;)Z" } : Jvm.MethodName) prog_28_method_25_code (2 : Nat) (Option.some Jvm.ClassFile.FieldType.boolean) ∈ gw := gw_of (mt_2 _ (List.mem_of_getElem? (i := 200) rfl)) rfl
theorem gw_441 : Jvm.Cond.methodLink "java/util/ArrayList" (131 : Nat) ({ cls := "java/util/ArrayList", name := "add", desc := "(Ljava/lang/Object;[Ljava/lang/Object;I)V" } : Jvm.MethodName) ∈ gw := gw_of (mt_2 _ (List.mem_of_getElem? (i := 201) rfl)) rfl
theorem mw_442 : Jvm.Cond.privateMethod ({ cls := "java/util/ArrayList", name := "add", desc := "(Ljava/lang/Object;[Ljava/lang/Object;I)V" } : Jvm.MethodName) ∈ lw_tbl := mt_2 _ (List.mem_of_getElem? (i := 202) rfl)
theorem gw_443 : Jvm.Cond.instanceMethod ({ cls := "java/util/ArrayList", name := "add", desc := "(Ljava/lang/Object;[Ljava/lang/Object;I)V" } : Jvm.MethodName) ∈ gw := gw_of (mt_2 _ (List.mem_of_getElem? (i := 203) rfl)) rfl
theorem gw_444 : Jvm.Cond.code ({ cls := "java/util/ArrayList", name := "add", desc := "(Ljava/lang/Object;[Ljava/lang/Object;I)V" } : Jvm.MethodName) prog_28_method_24_code (4 : Nat) (Option.none : Option Jvm.ClassFile.FieldType) ∈ gw := gw_of (mt_2 _ (List.mem_of_getElem? (i := 204) rfl)) rfl
theorem gw_445 : Jvm.Cond.methodLink "java/util/ArrayList" (129 : Nat) ({ cls := "java/util/ArrayList", name := "grow", desc := "()[Ljava/lang/Object;" } : Jvm.MethodName) ∈ gw := gw_of (mt_2 _ (List.mem_of_getElem? (i := 205) rfl)) rfl
theorem mw_446 : Jvm.Cond.privateMethod ({ cls := "java/util/ArrayList", name := "grow", desc := "()[Ljava/lang/Object;" } : Jvm.MethodName) ∈ lw_tbl := mt_2 _ (List.mem_of_getElem? (i := 206) rfl)
theorem gw_447 : Jvm.Cond.instanceMethod ({ cls := "java/util/ArrayList", name := "grow", desc := "()[Ljava/lang/Object;" } : Jvm.MethodName) ∈ gw := gw_of (mt_2 _ (List.mem_of_getElem? (i := 207) rfl)) rfl
theorem gw_448 : Jvm.Cond.code ({ cls := "java/util/ArrayList", name := "grow", desc := "()[Ljava/lang/Object;" } : Jvm.MethodName) prog_28_method_7_code (1 : Nat) (Option.some (Jvm.ClassFile.FieldType.array (Jvm.ClassFile.FieldType.object "java/lang/Object"))) ∈ gw := gw_of (mt_2 _ (List.mem_of_getElem? (i := 208) rfl)) rfl
theorem gw_449 : Jvm.Cond.methodLink "java/util/ArrayList" (69 : Nat) ({ cls := "java/util/ArrayList", name := "grow", desc := "(I)[Ljava/lang/Object;" } : Jvm.MethodName) ∈ gw := gw_of (mt_2 _ (List.mem_of_getElem? (i := 209) rfl)) rfl
theorem mw_450 : Jvm.Cond.privateMethod ({ cls := "java/util/ArrayList", name := "grow", desc := "(I)[Ljava/lang/Object;" } : Jvm.MethodName) ∈ lw_tbl := mt_2 _ (List.mem_of_getElem? (i := 210) rfl)
theorem gw_451 : Jvm.Cond.instanceMethod ({ cls := "java/util/ArrayList", name := "grow", desc := "(I)[Ljava/lang/Object;" } : Jvm.MethodName) ∈ gw := gw_of (mt_2 _ (List.mem_of_getElem? (i := 211) rfl)) rfl
theorem gw_452 : Jvm.Cond.code ({ cls := "java/util/ArrayList", name := "grow", desc := "(I)[Ljava/lang/Object;" } : Jvm.MethodName) prog_28_method_6_code (4 : Nat) (Option.some (Jvm.ClassFile.FieldType.array (Jvm.ClassFile.FieldType.object "java/lang/Object"))) ∈ gw := gw_of (mt_2 _ (List.mem_of_getElem? (i := 212) rfl)) rfl
theorem gw_453 : Jvm.Cond.methodLink "java/util/ArrayList" (73 : Nat) ({ cls := "jdk/internal/util/ArraysSupport", name := "newLength", desc := "(III)I" } : Jvm.MethodName) ∈ gw := gw_of (mt_2 _ (List.mem_of_getElem? (i := 213) rfl)) rfl
theorem gw_454 : Jvm.Cond.static ({ cls := "jdk/internal/util/ArraysSupport", name := "newLength", desc := "(III)I" } : Jvm.MethodName) ∈ gw := gw_of (mt_2 _ (List.mem_of_getElem? (i := 214) rfl)) rfl
theorem gw_455 : Jvm.Cond.code ({ cls := "jdk/internal/util/ArraysSupport", name := "newLength", desc := "(III)I" } : Jvm.MethodName) prog_36_method_27_code (4 : Nat) (Option.some Jvm.ClassFile.FieldType.int) ∈ gw := gw_of (mt_2 _ (List.mem_of_getElem? (i := 215) rfl)) rfl
theorem gw_456 : Jvm.Cond.methodLink "jdk/internal/util/ArraysSupport" (194 : Nat) ({ cls := "java/lang/Math", name := "max", desc := "(II)I" } : Jvm.MethodName) ∈ gw := gw_of (mt_2 _ (List.mem_of_getElem? (i := 216) rfl)) rfl
theorem gw_457 : Jvm.Cond.static ({ cls := "java/lang/Math", name := "max", desc := "(II)I" } : Jvm.MethodName) ∈ gw := gw_of (mt_2 _ (List.mem_of_getElem? (i := 217) rfl)) rfl
theorem gw_458 : Jvm.Cond.code ({ cls := "java/lang/Math", name := "max", desc := "(II)I" } : Jvm.MethodName) prog_22_method_65_code (2 : Nat) (Option.some Jvm.ClassFile.FieldType.int) ∈ gw := gw_of (mt_2 _ (List.mem_of_getElem? (i := 218) rfl)) rfl
theorem gw_459 : Jvm.Cond.constant "jdk/internal/util/ArraysSupport" (200 : Nat) (2147483639 : Int32) ∈ gw := gw_of (mt_2 _ (List.mem_of_getElem? (i := 219) rfl)) rfl
theorem gw_460 : Jvm.Cond.methodLink "jdk/internal/util/ArraysSupport" (201 : Nat) ({ cls := "jdk/internal/util/ArraysSupport", name := "hugeLength", desc := "(II)I" } : Jvm.MethodName) ∈ gw := gw_of (mt_2 _ (List.mem_of_getElem? (i := 220) rfl)) rfl
theorem gw_461 : Jvm.Cond.static ({ cls := "jdk/internal/util/ArraysSupport", name := "hugeLength", desc := "(II)I" } : Jvm.MethodName) ∈ gw := gw_of (mt_2 _ (List.mem_of_getElem? (i := 221) rfl)) rfl
theorem gw_462 : Jvm.Cond.code ({ cls := "jdk/internal/util/ArraysSupport", name := "hugeLength", desc := "(II)I" } : Jvm.MethodName) prog_36_method_28_code (3 : Nat) (Option.some Jvm.ClassFile.FieldType.int) ∈ gw := gw_of (mt_2 _ (List.mem_of_getElem? (i := 222) rfl)) rfl
theorem gw_463 : Jvm.Cond.methodLink "java/util/ArrayList" (66 : Nat) ({ cls := "java/util/Arrays", name := "copyOf", desc := "([Ljava/lang/Object;I)[Ljava/lang/Object;" } : Jvm.MethodName) ∈ gw := gw_of (mt_2 _ (List.mem_of_getElem? (i := 223) rfl)) rfl
theorem gw_464 : Jvm.Cond.static ({ cls := "java/util/Arrays", name := "copyOf", desc := "([Ljava/lang/Object;I)[Ljava/lang/Object;" } : Jvm.MethodName) ∈ gw := gw_of (mt_2 _ (List.mem_of_getElem? (i := 224) rfl)) rfl
theorem gw_465 : Jvm.Cond.code ({ cls := "java/util/Arrays", name := "copyOf", desc := "([Ljava/lang/Object;I)[Ljava/lang/Object;" } : Jvm.MethodName) prog_29_method_119_code (2 : Nat) (Option.some (Jvm.ClassFile.FieldType.array (Jvm.ClassFile.FieldType.object "java/lang/Object"))) ∈ gw := gw_of (mt_2 _ (List.mem_of_getElem? (i := 225) rfl)) rfl
theorem gw_466 : Jvm.Cond.methodLink "java/util/Arrays" (86 : Nat) ({ cls := "java/lang/Object", name := "getClass", desc := "()Ljava/lang/Class;" } : Jvm.MethodName) ∈ gw := gw_of (mt_2 _ (List.mem_of_getElem? (i := 226) rfl)) rfl
theorem gw_467 : Jvm.Cond.instanceMethod ({ cls := "java/lang/Object", name := "getClass", desc := "()Ljava/lang/Class;" } : Jvm.MethodName) ∈ gw := gw_of (mt_2 _ (List.mem_of_getElem? (i := 227) rfl)) rfl
theorem gw_468 : Jvm.Cond.sameMethod "java/lang/Object" "java/lang/Object" "getClass" "()Ljava/lang/Class;" ∈ gw := gw_of (mt_2 _ (List.mem_of_getElem? (i := 228) rfl)) rfl
theorem gw_469 : Jvm.Cond.selects "CoinKeeper" ({ cls := "java/lang/Object", name := "getClass", desc := "()Ljava/lang/Class;" } : Jvm.MethodName) ({ cls := "java/lang/Object", name := "getClass", desc := "()Ljava/lang/Class;" } : Jvm.MethodName) ∈ gw := gw_of (mt_2 _ (List.mem_of_getElem? (i := 229) rfl)) rfl
theorem gw_470 : Jvm.Cond.selects "CoinKeeper$Block" ({ cls := "java/lang/Object", name := "getClass", desc := "()Ljava/lang/Class;" } : Jvm.MethodName) ({ cls := "java/lang/Object", name := "getClass", desc := "()Ljava/lang/Class;" } : Jvm.MethodName) ∈ gw := gw_of (mt_2 _ (List.mem_of_getElem? (i := 230) rfl)) rfl
theorem gw_471 : Jvm.Cond.selects "CoinKeeper$Coin" ({ cls := "java/lang/Object", name := "getClass", desc := "()Ljava/lang/Class;" } : Jvm.MethodName) ({ cls := "java/lang/Object", name := "getClass", desc := "()Ljava/lang/Class;" } : Jvm.MethodName) ∈ gw := gw_of (mt_2 _ (List.mem_of_getElem? (i := 231) rfl)) rfl
theorem gw_472 : Jvm.Cond.selects "CoinKeeper$Curve" ({ cls := "java/lang/Object", name := "getClass", desc := "()Ljava/lang/Class;" } : Jvm.MethodName) ({ cls := "java/lang/Object", name := "getClass", desc := "()Ljava/lang/Class;" } : Jvm.MethodName) ∈ gw := gw_of (mt_2 _ (List.mem_of_getElem? (i := 232) rfl)) rfl
theorem gw_473 : Jvm.Cond.selects "CoinKeeper$Layout" ({ cls := "java/lang/Object", name := "getClass", desc := "()Ljava/lang/Class;" } : Jvm.MethodName) ({ cls := "java/lang/Object", name := "getClass", desc := "()Ljava/lang/Class;" } : Jvm.MethodName) ∈ gw := gw_of (mt_2 _ (List.mem_of_getElem? (i := 233) rfl)) rfl
theorem gw_474 : Jvm.Cond.selects "CoinKeeper$Ledger" ({ cls := "java/lang/Object", name := "getClass", desc := "()Ljava/lang/Class;" } : Jvm.MethodName) ({ cls := "java/lang/Object", name := "getClass", desc := "()Ljava/lang/Class;" } : Jvm.MethodName) ∈ gw := gw_of (mt_2 _ (List.mem_of_getElem? (i := 234) rfl)) rfl
theorem gw_475 : Jvm.Cond.selects "CoinKeeper$Machine" ({ cls := "java/lang/Object", name := "getClass", desc := "()Ljava/lang/Class;" } : Jvm.MethodName) ({ cls := "java/lang/Object", name := "getClass", desc := "()Ljava/lang/Class;" } : Jvm.MethodName) ∈ gw := gw_of (mt_2 _ (List.mem_of_getElem? (i := 235) rfl)) rfl
theorem gw_476 : Jvm.Cond.selects "CoinKeeper$Point" ({ cls := "java/lang/Object", name := "getClass", desc := "()Ljava/lang/Class;" } : Jvm.MethodName) ({ cls := "java/lang/Object", name := "getClass", desc := "()Ljava/lang/Class;" } : Jvm.MethodName) ∈ gw := gw_of (mt_2 _ (List.mem_of_getElem? (i := 236) rfl)) rfl
theorem gw_477 : Jvm.Cond.selects "CoinKeeper$Ripemd160" ({ cls := "java/lang/Object", name := "getClass", desc := "()Ljava/lang/Class;" } : Jvm.MethodName) ({ cls := "java/lang/Object", name := "getClass", desc := "()Ljava/lang/Class;" } : Jvm.MethodName) ∈ gw := gw_of (mt_2 _ (List.mem_of_getElem? (i := 237) rfl)) rfl
theorem gw_478 : Jvm.Cond.selects "CoinKeeper$Sha256" ({ cls := "java/lang/Object", name := "getClass", desc := "()Ljava/lang/Class;" } : Jvm.MethodName) ({ cls := "java/lang/Object", name := "getClass", desc := "()Ljava/lang/Class;" } : Jvm.MethodName) ∈ gw := gw_of (mt_2 _ (List.mem_of_getElem? (i := 238) rfl)) rfl
theorem gw_479 : Jvm.Cond.selects "CoinKeeper$Signatures" ({ cls := "java/lang/Object", name := "getClass", desc := "()Ljava/lang/Class;" } : Jvm.MethodName) ({ cls := "java/lang/Object", name := "getClass", desc := "()Ljava/lang/Class;" } : Jvm.MethodName) ∈ gw := gw_of (mt_2 _ (List.mem_of_getElem? (i := 239) rfl)) rfl
theorem gw_480 : Jvm.Cond.selects "CoinKeeperModel" ({ cls := "java/lang/Object", name := "getClass", desc := "()Ljava/lang/Class;" } : Jvm.MethodName) ({ cls := "java/lang/Object", name := "getClass", desc := "()Ljava/lang/Class;" } : Jvm.MethodName) ∈ gw := gw_of (mt_3 _ (List.mem_of_getElem? (i := 0) rfl)) rfl
theorem gw_481 : Jvm.Cond.selects "java/lang/IllegalArgumentException" ({ cls := "java/lang/Object", name := "getClass", desc := "()Ljava/lang/Class;" } : Jvm.MethodName) ({ cls := "java/lang/Object", name := "getClass", desc := "()Ljava/lang/Class;" } : Jvm.MethodName) ∈ gw := gw_of (mt_3 _ (List.mem_of_getElem? (i := 1) rfl)) rfl
theorem gw_482 : Jvm.Cond.selects "java/lang/IllegalStateException" ({ cls := "java/lang/Object", name := "getClass", desc := "()Ljava/lang/Class;" } : Jvm.MethodName) ({ cls := "java/lang/Object", name := "getClass", desc := "()Ljava/lang/Class;" } : Jvm.MethodName) ∈ gw := gw_of (mt_3 _ (List.mem_of_getElem? (i := 2) rfl)) rfl
theorem gw_483 : Jvm.Cond.selects "java/util/ArrayList" ({ cls := "java/lang/Object", name := "getClass", desc := "()Ljava/lang/Class;" } : Jvm.MethodName) ({ cls := "java/lang/Object", name := "getClass", desc := "()Ljava/lang/Class;" } : Jvm.MethodName) ∈ gw := gw_of (mt_3 _ (List.mem_of_getElem? (i := 3) rfl)) rfl
theorem gw_484 : Jvm.Cond.selects "java/util/NoSuchElementException" ({ cls := "java/lang/Object", name := "getClass", desc := "()Ljava/lang/Class;" } : Jvm.MethodName) ({ cls := "java/lang/Object", name := "getClass", desc := "()Ljava/lang/Class;" } : Jvm.MethodName) ∈ gw := gw_of (mt_3 _ (List.mem_of_getElem? (i := 4) rfl)) rfl
theorem gw_485 : Jvm.Cond.native ({ cls := "java/lang/Object", name := "getClass", desc := "()Ljava/lang/Class;" } : Jvm.MethodName) ∈ gw := gw_of (mt_3 _ (List.mem_of_getElem? (i := 5) rfl)) rfl
theorem gw_486 : Jvm.Cond.methodLink "java/util/Arrays" (300 : Nat) ({ cls := "java/util/Arrays", name := "copyOf", desc := "([Ljava/lang/Object;ILjava/lang/Class;)[Ljava/lang/Object;" } : Jvm.MethodName) ∈ gw := gw_of (mt_3 _ (List.mem_of_getElem? (i := 6) rfl)) rfl
theorem gw_487 : Jvm.Cond.static ({ cls := "java/util/Arrays", name := "copyOf", desc := "([Ljava/lang/Object;ILjava/lang/Class;)[Ljava/lang/Object;" } : Jvm.MethodName) ∈ gw := gw_of (mt_3 _ (List.mem_of_getElem? (i := 7) rfl)) rfl
theorem gw_488 : Jvm.Cond.code ({ cls := "java/util/Arrays", name := "copyOf", desc := "([Ljava/lang/Object;ILjava/lang/Class;)[Ljava/lang/Object;" } : Jvm.MethodName) prog_29_method_120_code (4 : Nat) (Option.some (Jvm.ClassFile.FieldType.array (Jvm.ClassFile.FieldType.object "java/lang/Object"))) ∈ gw := gw_of (mt_3 _ (List.mem_of_getElem? (i := 8) rfl)) rfl
theorem gw_489 : Jvm.Cond.classLink "java/util/Arrays" (110 : Nat) "[Ljava/lang/Object;" ∈ gw := gw_of (mt_3 _ (List.mem_of_getElem? (i := 9) rfl)) rfl
theorem mw_490 : Jvm.Cond.arrayOver (Jvm.ClassFile.FieldType.object "java/lang/Object") ∈ lw_tbl := mt_3 _ (List.mem_of_getElem? (i := 10) rfl)
theorem gw_491 : Jvm.Cond.classLink "java/util/Arrays" (2 : Nat) "java/lang/Object" ∈ gw := gw_of (mt_3 _ (List.mem_of_getElem? (i := 11) rfl)) rfl
theorem gw_492 : Jvm.Cond.methodLink "java/util/Arrays" (304 : Nat) ({ cls := "java/lang/Math", name := "min", desc := "(II)I" } : Jvm.MethodName) ∈ gw := gw_of (mt_3 _ (List.mem_of_getElem? (i := 12) rfl)) rfl
theorem gw_493 : Jvm.Cond.static ({ cls := "java/lang/Math", name := "min", desc := "(II)I" } : Jvm.MethodName) ∈ gw := gw_of (mt_3 _ (List.mem_of_getElem? (i := 13) rfl)) rfl
theorem gw_494 : Jvm.Cond.code ({ cls := "java/lang/Math", name := "min", desc := "(II)I" } : Jvm.MethodName) prog_22_method_69_code (2 : Nat) (Option.some Jvm.ClassFile.FieldType.int) ∈ gw := gw_of (mt_3 _ (List.mem_of_getElem? (i := 14) rfl)) rfl
theorem gw_495 : Jvm.Cond.methodLink "java/util/Arrays" (150 : Nat) ({ cls := "java/lang/System", name := "arraycopy", desc := "(Ljava/lang/Object;ILjava/lang/Object;II)V" } : Jvm.MethodName) ∈ gw := gw_of (mt_3 _ (List.mem_of_getElem? (i := 15) rfl)) rfl
theorem gw_496 : Jvm.Cond.static ({ cls := "java/lang/System", name := "arraycopy", desc := "(Ljava/lang/Object;ILjava/lang/Object;II)V" } : Jvm.MethodName) ∈ gw := gw_of (mt_3 _ (List.mem_of_getElem? (i := 16) rfl)) rfl
theorem gw_497 : Jvm.Cond.native ({ cls := "java/lang/System", name := "arraycopy", desc := "(Ljava/lang/Object;ILjava/lang/Object;II)V" } : Jvm.MethodName) ∈ gw := gw_of (mt_3 _ (List.mem_of_getElem? (i := 17) rfl)) rfl
theorem gw_498 : Jvm.Cond.methodLink "java/util/ArrayList" (79 : Nat) ({ cls := "java/lang/Math", name := "max", desc := "(II)I" } : Jvm.MethodName) ∈ gw := gw_of (mt_3 _ (List.mem_of_getElem? (i := 18) rfl)) rfl
theorem gw_499 : Jvm.Cond.classLink "java/util/ArrayList" (7 : Nat) "java/lang/Object" ∈ gw := gw_of (mt_3 _ (List.mem_of_getElem? (i := 19) rfl)) rfl
theorem gw_500 : Jvm.Cond.fieldLink "CoinKeeper" (9 : Nat) "CoinKeeper" "row" "[B" ∈ gw := gw_of (mt_3 _ (List.mem_of_getElem? (i := 20) rfl)) rfl
theorem gw_501 : Jvm.Cond.fieldLink "CoinKeeper" (79 : Nat) "CoinKeeper" "rowLength" "I" ∈ gw := gw_of (mt_3 _ (List.mem_of_getElem? (i := 21) rfl)) rfl
theorem gw_502 : Jvm.Cond.fieldLink "CoinKeeper" (13 : Nat) "CoinKeeper" "id" "[B" ∈ gw := gw_of (mt_3 _ (List.mem_of_getElem? (i := 22) rfl)) rfl
theorem gw_503 : Jvm.Cond.fieldLink "CoinKeeper" (19 : Nat) "CoinKeeper" "sha" "LCoinKeeper$Sha256;" ∈ gw := gw_of (mt_3 _ (List.mem_of_getElem? (i := 23) rfl)) rfl
theorem gw_504 : Jvm.Cond.fieldLink "CoinKeeper" (26 : Nat) "CoinKeeper" "signatures" "LCoinKeeper$Signatures;" ∈ gw := gw_of (mt_3 _ (List.mem_of_getElem? (i := 24) rfl)) rfl
theorem gw_505 : Jvm.Cond.fieldLink "CoinKeeper" (35 : Nat) "CoinKeeper" "machine" "LCoinKeeper$Machine;" ∈ gw := gw_of (mt_3 _ (List.mem_of_getElem? (i := 25) rfl)) rfl
theorem gw_506 : Jvm.Cond.fieldLink "CoinKeeper" (42 : Nat) "CoinKeeper" "layout" "LCoinKeeper$Layout;" ∈ gw := gw_of (mt_3 _ (List.mem_of_getElem? (i := 26) rfl)) rfl
theorem gw_507 : Jvm.Cond.fieldLink "CoinKeeper" (49 : Nat) "CoinKeeper" "ledger" "LCoinKeeper$Ledger;" ∈ gw := gw_of (mt_3 _ (List.mem_of_getElem? (i := 27) rfl)) rfl
theorem gw_508 : Jvm.Cond.fieldLink "CoinKeeper" (56 : Nat) "CoinKeeper" "blocks" "Ljava/util/ArrayList;" ∈ gw := gw_of (mt_3 _ (List.mem_of_getElem? (i := 28) rfl)) rfl
theorem gw_509 : Jvm.Cond.fieldLink "CoinKeeper" (62 : Nat) "CoinKeeper" "spent" "[LCoinKeeper$Coin;" ∈ gw := gw_of (mt_3 _ (List.mem_of_getElem? (i := 29) rfl)) rfl
theorem gw_510 : Jvm.Cond.fieldLink "CoinKeeper" (71 : Nat) "CoinKeeper" "tip" "LCoinKeeper$Block;" ∈ gw := gw_of (mt_3 _ (List.mem_of_getElem? (i := 30) rfl)) rfl
theorem gw_511 : Jvm.Cond.fieldLink "CoinKeeper" (97 : Nat) "CoinKeeper" "takenBytes" "I" ∈ gw := gw_of (mt_3 _ (List.mem_of_getElem? (i := 31) rfl)) rfl
theorem gw_512 : Jvm.Cond.fieldLink "CoinKeeper" (271 : Nat) "CoinKeeper" "checkedTxs" "I" ∈ gw := gw_of (mt_3 _ (List.mem_of_getElem? (i := 32) rfl)) rfl
theorem gw_513 : Jvm.Cond.laysFinal "CoinKeeper" "CoinKeeper" "row" "[B" ∈ gw := gw_of (mt_3 _ (List.mem_of_getElem? (i := 33) rfl)) rfl
theorem gw_514 : Jvm.Cond.soleField "CoinKeeper" "row" ∈ gw := gw_of (mt_3 _ (List.mem_of_getElem? (i := 34) rfl)) rfl
theorem gw_515 : Jvm.Cond.lays "CoinKeeper" "CoinKeeper" "rowLength" "I" ∈ gw := gw_of (mt_3 _ (List.mem_of_getElem? (i := 35) rfl)) rfl
theorem gw_516 : Jvm.Cond.soleField "CoinKeeper" "rowLength" ∈ gw := gw_of (mt_3 _ (List.mem_of_getElem? (i := 36) rfl)) rfl
theorem gw_517 : Jvm.Cond.laysFinal "CoinKeeper" "CoinKeeper" "id" "[B" ∈ gw := gw_of (mt_3 _ (List.mem_of_getElem? (i := 37) rfl)) rfl
theorem gw_518 : Jvm.Cond.soleField "CoinKeeper" "id" ∈ gw := gw_of (mt_3 _ (List.mem_of_getElem? (i := 38) rfl)) rfl
theorem gw_519 : Jvm.Cond.laysFinal "CoinKeeper" "CoinKeeper" "sha" "LCoinKeeper$Sha256;" ∈ gw := gw_of (mt_3 _ (List.mem_of_getElem? (i := 39) rfl)) rfl
theorem gw_520 : Jvm.Cond.soleField "CoinKeeper" "sha" ∈ gw := gw_of (mt_3 _ (List.mem_of_getElem? (i := 40) rfl)) rfl
theorem gw_521 : Jvm.Cond.laysFinal "CoinKeeper" "CoinKeeper" "signatures" "LCoinKeeper$Signatures;" ∈ gw := gw_of (mt_3 _ (List.mem_of_getElem? (i := 41) rfl)) rfl
theorem gw_522 : Jvm.Cond.soleField "CoinKeeper" "signatures" ∈ gw := gw_of (mt_3 _ (List.mem_of_getElem? (i := 42) rfl)) rfl
theorem gw_523 : Jvm.Cond.laysFinal "CoinKeeper" "CoinKeeper" "machine" "LCoinKeeper$Machine;" ∈ gw := gw_of (mt_3 _ (List.mem_of_getElem? (i := 43) rfl)) rfl
theorem gw_524 : Jvm.Cond.soleField "CoinKeeper" "machine" ∈ gw := gw_of (mt_3 _ (List.mem_of_getElem? (i := 44) rfl)) rfl
theorem gw_525 : Jvm.Cond.laysFinal "CoinKeeper" "CoinKeeper" "layout" "LCoinKeeper$Layout;" ∈ gw := gw_of (mt_3 _ (List.mem_of_getElem? (i := 45) rfl)) rfl
theorem gw_526 : Jvm.Cond.soleField "CoinKeeper" "layout" ∈ gw := gw_of (mt_3 _ (List.mem_of_getElem? (i := 46) rfl)) rfl
theorem gw_527 : Jvm.Cond.laysFinal "CoinKeeper" "CoinKeeper" "ledger" "LCoinKeeper$Ledger;" ∈ gw := gw_of (mt_3 _ (List.mem_of_getElem? (i := 47) rfl)) rfl
theorem gw_528 : Jvm.Cond.soleField "CoinKeeper" "ledger" ∈ gw := gw_of (mt_3 _ (List.mem_of_getElem? (i := 48) rfl)) rfl
theorem gw_529 : Jvm.Cond.laysFinal "CoinKeeper" "CoinKeeper" "blocks" "Ljava/util/ArrayList;" ∈ gw := gw_of (mt_3 _ (List.mem_of_getElem? (i := 49) rfl)) rfl
theorem gw_530 : Jvm.Cond.soleField "CoinKeeper" "blocks" ∈ gw := gw_of (mt_3 _ (List.mem_of_getElem? (i := 50) rfl)) rfl
theorem gw_531 : Jvm.Cond.laysFinal "CoinKeeper" "CoinKeeper" "spent" "[LCoinKeeper$Coin;" ∈ gw := gw_of (mt_3 _ (List.mem_of_getElem? (i := 51) rfl)) rfl
theorem gw_532 : Jvm.Cond.soleField "CoinKeeper" "spent" ∈ gw := gw_of (mt_3 _ (List.mem_of_getElem? (i := 52) rfl)) rfl
theorem gw_533 : Jvm.Cond.lays "CoinKeeper" "CoinKeeper" "tip" "LCoinKeeper$Block;" ∈ gw := gw_of (mt_3 _ (List.mem_of_getElem? (i := 53) rfl)) rfl
theorem gw_534 : Jvm.Cond.soleField "CoinKeeper" "tip" ∈ gw := gw_of (mt_3 _ (List.mem_of_getElem? (i := 54) rfl)) rfl
theorem gw_535 : Jvm.Cond.lays "CoinKeeper" "CoinKeeper" "takenBytes" "I" ∈ gw := gw_of (mt_3 _ (List.mem_of_getElem? (i := 55) rfl)) rfl
theorem gw_536 : Jvm.Cond.soleField "CoinKeeper" "takenBytes" ∈ gw := gw_of (mt_3 _ (List.mem_of_getElem? (i := 56) rfl)) rfl
theorem gw_537 : Jvm.Cond.lays "CoinKeeper" "CoinKeeper" "checkedTxs" "I" ∈ gw := gw_of (mt_3 _ (List.mem_of_getElem? (i := 57) rfl)) rfl
theorem gw_538 : Jvm.Cond.soleField "CoinKeeper" "checkedTxs" ∈ gw := gw_of (mt_3 _ (List.mem_of_getElem? (i := 58) rfl)) rfl
theorem gw_539 : Jvm.Cond.superclass "CoinKeeper" "java/lang/Object" ∈ gw := gw_of (mt_3 _ (List.mem_of_getElem? (i := 59) rfl)) rfl
theorem gw_540 : Jvm.Cond.methodLink "CoinKeeperLaw" (83 : Nat) ({ cls := "CoinKeeper", name := "digest", desc := "()J" } : Jvm.MethodName) ∈ gw := gw_of (mt_3 _ (List.mem_of_getElem? (i := 60) rfl)) rfl
theorem gw_541 : Jvm.Cond.instanceMethod ({ cls := "CoinKeeper", name := "digest", desc := "()J" } : Jvm.MethodName) ∈ gw := gw_of (mt_3 _ (List.mem_of_getElem? (i := 61) rfl)) rfl
theorem gw_542 : Jvm.Cond.selects "CoinKeeper" ({ cls := "CoinKeeper", name := "digest", desc := "()J" } : Jvm.MethodName) ({ cls := "CoinKeeper", name := "digest", desc := "()J" } : Jvm.MethodName) ∈ gw := gw_of (mt_3 _ (List.mem_of_getElem? (i := 62) rfl)) rfl
theorem gw_543 : Jvm.Cond.code ({ cls := "CoinKeeper", name := "digest", desc := "()J" } : Jvm.MethodName) prog_1_method_10_code (1 : Nat) (Option.some Jvm.ClassFile.FieldType.long) ∈ gw := gw_of (mt_3 _ (List.mem_of_getElem? (i := 63) rfl)) rfl
theorem gw_544 : Jvm.Cond.methodLink "CoinKeeper" (198 : Nat) ({ cls := "CoinKeeper$Ledger", name := "sum", desc := "()J" } : Jvm.MethodName) ∈ gw := gw_of (mt_3 _ (List.mem_of_getElem? (i := 64) rfl)) rfl
theorem gw_545 : Jvm.Cond.instanceMethod ({ cls := "CoinKeeper$Ledger", name := "sum", desc := "()J" } : Jvm.MethodName) ∈ gw := gw_of (mt_3 _ (List.mem_of_getElem? (i := 65) rfl)) rfl
theorem gw_546 : Jvm.Cond.selects "CoinKeeper$Ledger" ({ cls := "CoinKeeper$Ledger", name := "sum", desc := "()J" } : Jvm.MethodName) ({ cls := "CoinKeeper$Ledger", name := "sum", desc := "()J" } : Jvm.MethodName) ∈ gw := gw_of (mt_3 _ (List.mem_of_getElem? (i := 66) rfl)) rfl
theorem gw_547 : Jvm.Cond.code ({ cls := "CoinKeeper$Ledger", name := "sum", desc := "()J" } : Jvm.MethodName) prog_6_method_10_code (7 : Nat) (Option.some Jvm.ClassFile.FieldType.long) ∈ gw := gw_of (mt_3 _ (List.mem_of_getElem? (i := 67) rfl)) rfl
theorem gw_548 : Jvm.Cond.methodLink "CoinKeeper$Ledger" (25 : Nat) ({ cls := "java/util/ArrayList", name := "size", desc := "()I" } : Jvm.MethodName) ∈ gw := gw_of (mt_3 _ (List.mem_of_getElem? (i := 68) rfl)) rfl
theorem gw_549 : Jvm.Cond.instanceMethod ({ cls := "java/util/ArrayList", name := "size", desc := "()I" } : Jvm.MethodName) ∈ gw := gw_of (mt_3 _ (List.mem_of_getElem? (i := 69) rfl)) rfl
theorem gw_550 : Jvm.Cond.selects "java/util/ArrayList" ({ cls := "java/util/ArrayList", name := "size", desc := "()I" } : Jvm.MethodName) ({ cls := "java/util/ArrayList", name := "size", desc := "()I" } : Jvm.MethodName) ∈ gw := gw_of (mt_3 _ (List.mem_of_getElem? (i := 70) rfl)) rfl
theorem gw_551 : Jvm.Cond.code ({ cls := "java/util/ArrayList", name := "size", desc := "()I" } : Jvm.MethodName) prog_28_method_8_code (1 : Nat) (Option.some Jvm.ClassFile.FieldType.int) ∈ gw := gw_of (mt_3 _ (List.mem_of_getElem? (i := 71) rfl)) rfl
theorem gw_552 : Jvm.Cond.methodLink "CoinKeeper$Ledger" (29 : Nat) ({ cls := "java/util/ArrayList", name := "get", desc := "(I)Ljava/lang/Object;" } : Jvm.MethodName) ∈ gw := gw_of (mt_3 _ (List.mem_of_getElem? (i := 72) rfl)) rfl
theorem gw_553 : Jvm.Cond.instanceMethod ({ cls := "java/util/ArrayList", name := "get", desc := "(I)Ljava/lang/Object;" } : Jvm.MethodName) ∈ gw := gw_of (mt_3 _ (List.mem_of_getElem? (i := 73) rfl)) rfl
theorem gw_554 : Jvm.Cond.selects "java/util/ArrayList" ({ cls := "java/util/ArrayList", name := "get", desc := "(I)Ljava/lang/Object;" } : Jvm.MethodName) ({ cls := "java/util/ArrayList", name := "get", desc := "(I)Ljava/lang/Object;" } : Jvm.MethodName) ∈ gw := gw_of (mt_3 _ (List.mem_of_getElem? (i := 74) rfl)) rfl
theorem gw_555 : Jvm.Cond.code ({ cls := "java/util/ArrayList", name := "get", desc := "(I)Ljava/lang/Object;" } : Jvm.MethodName) prog_28_method_20_code (2 : Nat) (Option.some (Jvm.ClassFile.FieldType.object "java/lang/Object")) ∈ gw := gw_of (mt_3 _ (List.mem_of_getElem? (i := 75) rfl)) rfl
theorem gw_556 : Jvm.Cond.methodLink "java/util/ArrayList" (118 : Nat) ({ cls := "java/util/Objects", name := "checkIndex", desc := "(II)I" } : Jvm.MethodName) ∈ gw := gw_of (mt_3 _ (List.mem_of_getElem? (i := 76) rfl)) rfl
theorem gw_557 : Jvm.Cond.static ({ cls := "java/util/Objects", name := "checkIndex", desc := "(II)I" } : Jvm.MethodName) ∈ gw := gw_of (mt_3 _ (List.mem_of_getElem? (i := 77) rfl)) rfl
theorem gw_558 : Jvm.Cond.code ({ cls := "java/util/Objects", name := "checkIndex", desc := "(II)I" } : Jvm.MethodName) prog_33_method_17_code (2 : Nat) (Option.some Jvm.ClassFile.FieldType.int) ∈ gw := gw_of (mt_3 _ (List.mem_of_getElem? (i := 78) rfl)) rfl
theorem gw_559 : Jvm.Cond.methodLink "java/util/Objects" (105 : Nat) ({ cls := "jdk/internal/util/Preconditions", name := "checkIndex", desc := "(IILjava/util/function/BiFunction;)I" } : Jvm.MethodName) ∈ gw := gw_of (mt_3 _ (List.mem_of_getElem? (i := 79) rfl)) rfl
theorem gw_560 : Jvm.Cond.static ({ cls := "jdk/internal/util/Preconditions", name := "checkIndex", desc := "(IILjava/util/function/BiFunction;)I" } : Jvm.MethodName) ∈ gw := gw_of (mt_3 _ (List.mem_of_getElem? (i := 80) rfl)) rfl
theorem gw_561 : Jvm.Cond.code ({ cls := "jdk/internal/util/Preconditions", name := "checkIndex", desc := "(IILjava/util/function/BiFunction;)I" } : Jvm.MethodName) prog_37_method_11_code (3 : Nat) (Option.some Jvm.ClassFile.FieldType.int) ∈ gw := gw_of (mt_3 _ (List.mem_of_getElem? (i := 81) rfl)) rfl
theorem gw_562 : Jvm.Cond.methodLink "java/util/ArrayList" (123 : Nat) ({ cls := "java/util/ArrayList", name := "elementData", desc := "(I)Ljava/lang/Object;" } : Jvm.MethodName) ∈ gw := gw_of (mt_3 _ (List.mem_of_getElem? (i := 82) rfl)) rfl
theorem gw_563 : Jvm.Cond.instanceMethod ({ cls := "java/util/ArrayList", name := "elementData", desc := "(I)Ljava/lang/Object;" } : Jvm.MethodName) ∈ gw := gw_of (mt_3 _ (List.mem_of_getElem? (i := 83) rfl)) rfl
theorem gw_564 : Jvm.Cond.selects "java/util/ArrayList" ({ cls := "java/util/ArrayList", name := "elementData", desc := "(I)Ljava/lang/Object;" } : Jvm.MethodName) ({ cls := "java/util/ArrayList", name := "elementData", desc := "(I)Ljava/lang/Object;" } : Jvm.MethodName) ∈ gw := gw_of (mt_3 _ (List.mem_of_getElem? (i := 84) rfl)) rfl
theorem gw_565 : Jvm.Cond.code ({ cls := "java/util/ArrayList", name := "elementData", desc := "(I)Ljava/lang/Object;" } : Jvm.MethodName) prog_28_method_18_code (2 : Nat) (Option.some (Jvm.ClassFile.FieldType.object "java/lang/Object")) ∈ gw := gw_of (mt_3 _ (List.mem_of_getElem? (i := 85) rfl)) rfl
theorem gw_566 : Jvm.Cond.classLink "CoinKeeper$Ledger" (33 : Nat) "CoinKeeper$Coin" ∈ gw := gw_of (mt_3 _ (List.mem_of_getElem? (i := 86) rfl)) rfl
theorem gw_567 : Jvm.Cond.constantLong "CoinKeeper$Ledger" (88 : Nat) (31 : Int64) ∈ gw := gw_of (mt_3 _ (List.mem_of_getElem? (i := 87) rfl)) rfl
theorem gw_568 : Jvm.Cond.methodLink "CoinKeeperLaw" (51 : Nat) ({ cls := "CoinKeeperLaw", name := "feed", desc := "(LCoinKeeper;IIIII[J)I" } : Jvm.MethodName) ∈ gw := gw_of (mt_3 _ (List.mem_of_getElem? (i := 88) rfl)) rfl
theorem gw_569 : Jvm.Cond.static ({ cls := "CoinKeeperLaw", name := "feed", desc := "(LCoinKeeper;IIIII[J)I" } : Jvm.MethodName) ∈ gw := gw_of (mt_3 _ (List.mem_of_getElem? (i := 89) rfl)) rfl
theorem gw_570 : Jvm.Cond.codeWith ({ cls := "CoinKeeperLaw", name := "feed", desc := "(LCoinKeeper;IIIII[J)I" } : Jvm.MethodName) method_3_code (8 : Nat) (Option.some Jvm.ClassFile.FieldType.int) [((0 : Nat), (16 : Nat), (19 : Nat), (13 : Nat))] ∈ gw := gw_of (mt_3 _ (List.mem_of_getElem? (i := 90) rfl)) rfl
theorem gw_571 : Jvm.Cond.classLink "CoinKeeperLaw" (13 : Nat) "java/lang/IllegalStateException" ∈ gw := gw_of (mt_3 _ (List.mem_of_getElem? (i := 91) rfl)) rfl
theorem gw_572 : Jvm.Cond.methodLink "CoinKeeperLaw" (7 : Nat) ({ cls := "CoinKeeper", name := "feed", desc := "(IIIII)I" } : Jvm.MethodName) ∈ gw := gw_of (mt_3 _ (List.mem_of_getElem? (i := 92) rfl)) rfl
theorem gw_573 : Jvm.Cond.instanceMethod ({ cls := "CoinKeeper", name := "feed", desc := "(IIIII)I" } : Jvm.MethodName) ∈ gw := gw_of (mt_3 _ (List.mem_of_getElem? (i := 93) rfl)) rfl
theorem gw_574 : Jvm.Cond.selects "CoinKeeper" ({ cls := "CoinKeeper", name := "feed", desc := "(IIIII)I" } : Jvm.MethodName) ({ cls := "CoinKeeper", name := "feed", desc := "(IIIII)I" } : Jvm.MethodName) ∈ gw := gw_of (mt_3 _ (List.mem_of_getElem? (i := 94) rfl)) rfl
theorem gw_575 : Jvm.Cond.code ({ cls := "CoinKeeper", name := "feed", desc := "(IIIII)I" } : Jvm.MethodName) prog_1_method_2_code (6 : Nat) (Option.some Jvm.ClassFile.FieldType.int) ∈ gw := gw_of (mt_3 _ (List.mem_of_getElem? (i := 95) rfl)) rfl
theorem gw_576 : Jvm.Cond.classLink "CoinKeeper" (83 : Nat) "java/lang/IllegalStateException" ∈ gw := gw_of (mt_3 _ (List.mem_of_getElem? (i := 96) rfl)) rfl
theorem gw_577 : Jvm.Cond.instantiable "java/lang/IllegalStateException" (6 : Nat) ∈ gw := gw_of (mt_3 _ (List.mem_of_getElem? (i := 97) rfl)) rfl
theorem mw_578 : Jvm.Cond.castable "java/lang/IllegalStateException" "java/lang/IllegalStateException" ∈ lw_tbl := mt_3 _ (List.mem_of_getElem? (i := 98) rfl)
theorem mw_579 : Jvm.Cond.declares ({ cls := "java/lang/RuntimeException", name := "<init>", desc := "()V" } : Jvm.MethodName) ∈ lw_tbl := mt_3 _ (List.mem_of_getElem? (i := 99) rfl)
theorem mw_580 : Jvm.Cond.declares ({ cls := "java/lang/RuntimeException", name := "<init>", desc := "(Ljava/lang/String;)V" } : Jvm.MethodName) ∈ lw_tbl := mt_3 _ (List.mem_of_getElem? (i := 100) rfl)
theorem mw_581 : Jvm.Cond.declares ({ cls := "java/lang/Exception", name := "<init>", desc := "()V" } : Jvm.MethodName) ∈ lw_tbl := mt_3 _ (List.mem_of_getElem? (i := 101) rfl)
theorem mw_582 : Jvm.Cond.declares ({ cls := "java/lang/Exception", name := "<init>", desc := "(Ljava/lang/String;)V" } : Jvm.MethodName) ∈ lw_tbl := mt_3 _ (List.mem_of_getElem? (i := 102) rfl)
theorem mw_583 : Jvm.Cond.declares ({ cls := "java/lang/Throwable", name := "<init>", desc := "()V" } : Jvm.MethodName) ∈ lw_tbl := mt_3 _ (List.mem_of_getElem? (i := 103) rfl)
theorem mw_584 : Jvm.Cond.declares ({ cls := "java/lang/Throwable", name := "<init>", desc := "(Ljava/lang/String;)V" } : Jvm.MethodName) ∈ lw_tbl := mt_3 _ (List.mem_of_getElem? (i := 104) rfl)
theorem gw_585 : Jvm.Cond.selects "java/lang/IllegalStateException" ({ cls := "java/lang/Throwable", name := "fillInStackTrace", desc := "(I)Ljava/lang/Throwable;" } : Jvm.MethodName) ({ cls := "java/lang/Throwable", name := "fillInStackTrace", desc := "(I)Ljava/lang/Throwable;" } : Jvm.MethodName) ∈ gw := gw_of (mt_3 _ (List.mem_of_getElem? (i := 105) rfl)) rfl
theorem gw_586 : Jvm.Cond.selects "java/lang/IllegalStateException" ({ cls := "java/lang/Throwable", name := "fillInStackTrace", desc := "()Ljava/lang/Throwable;" } : Jvm.MethodName) ({ cls := "java/lang/Throwable", name := "fillInStackTrace", desc := "()Ljava/lang/Throwable;" } : Jvm.MethodName) ∈ gw := gw_of (mt_3 _ (List.mem_of_getElem? (i := 106) rfl)) rfl
theorem gw_587 : Jvm.Cond.lays "java/lang/IllegalStateException" "java/lang/Throwable" "cause" "Ljava/lang/Throwable;" ∈ gw := gw_of (mt_3 _ (List.mem_of_getElem? (i := 107) rfl)) rfl
theorem gw_588 : Jvm.Cond.lays "java/lang/Throwable" "java/lang/Throwable" "cause" "Ljava/lang/Throwable;" ∈ gw := gw_of (mt_3 _ (List.mem_of_getElem? (i := 108) rfl)) rfl
theorem gw_589 : Jvm.Cond.lays "java/lang/IllegalStateException" "java/lang/Throwable" "stackTrace" "[Ljava/lang/StackTraceElement;" ∈ gw := gw_of (mt_3 _ (List.mem_of_getElem? (i := 109) rfl)) rfl
theorem gw_590 : Jvm.Cond.lays "java/lang/Throwable" "java/lang/Throwable" "stackTrace" "[Ljava/lang/StackTraceElement;" ∈ gw := gw_of (mt_3 _ (List.mem_of_getElem? (i := 110) rfl)) rfl
theorem gw_591 : Jvm.Cond.lays "java/lang/IllegalStateException" "java/lang/Throwable" "suppressedExceptions" "Ljava/util/List;" ∈ gw := gw_of (mt_3 _ (List.mem_of_getElem? (i := 111) rfl)) rfl
theorem gw_592 : Jvm.Cond.lays "java/lang/Throwable" "java/lang/Throwable" "suppressedExceptions" "Ljava/util/List;" ∈ gw := gw_of (mt_3 _ (List.mem_of_getElem? (i := 112) rfl)) rfl
theorem gw_593 : Jvm.Cond.lays "java/lang/IllegalStateException" "java/lang/Throwable" "detailMessage" "Ljava/lang/String;" ∈ gw := gw_of (mt_3 _ (List.mem_of_getElem? (i := 113) rfl)) rfl
theorem gw_594 : Jvm.Cond.lays "java/lang/Throwable" "java/lang/Throwable" "detailMessage" "Ljava/lang/String;" ∈ gw := gw_of (mt_3 _ (List.mem_of_getElem? (i := 114) rfl)) rfl
theorem gw_595 : Jvm.Cond.lays "java/lang/IllegalStateException" "java/lang/Throwable" "backtrace" "Ljava/lang/Object;" ∈ gw := gw_of (mt_3 _ (List.mem_of_getElem? (i := 115) rfl)) rfl
theorem gw_596 : Jvm.Cond.lays "java/lang/Throwable" "java/lang/Throwable" "backtrace" "Ljava/lang/Object;" ∈ gw := gw_of (mt_3 _ (List.mem_of_getElem? (i := 116) rfl)) rfl
theorem gw_597 : Jvm.Cond.fieldLink "java/lang/Throwable" (198 : Nat) "java/lang/Throwable" "backtrace" "Ljava/lang/Object;" ∈ gw := gw_of (mt_3 _ (List.mem_of_getElem? (i := 117) rfl)) rfl
theorem gw_598 : Jvm.Cond.superclass "java/lang/Throwable" "java/lang/Object" ∈ gw := gw_of (mt_3 _ (List.mem_of_getElem? (i := 118) rfl)) rfl
theorem gw_599 : Jvm.Cond.instanceMethod ({ cls := "java/lang/Throwable", name := "<init>", desc := "()V" } : Jvm.MethodName) ∈ gw := gw_of (mt_3 _ (List.mem_of_getElem? (i := 119) rfl)) rfl
theorem gw_600 : Jvm.Cond.code ({ cls := "java/lang/Throwable", name := "<init>", desc := "()V" } : Jvm.MethodName) prog_25_method_1_code (1 : Nat) (Option.none : Option Jvm.ClassFile.FieldType) ∈ gw := gw_of (mt_3 _ (List.mem_of_getElem? (i := 120) rfl)) rfl
theorem gw_601 : Jvm.Cond.methodLink "java/lang/Throwable" (1 : Nat) ({ cls := "java/lang/Object", name := "<init>", desc := "()V" } : Jvm.MethodName) ∈ gw := gw_of (mt_3 _ (List.mem_of_getElem? (i := 121) rfl)) rfl
theorem gw_602 : Jvm.Cond.fieldLink "java/lang/Throwable" (13 : Nat) "java/lang/Throwable" "UNASSIGNED_STACK" "[Ljava/lang/StackTraceElement;" ∈ gw := gw_of (mt_3 _ (List.mem_of_getElem? (i := 122) rfl)) rfl
theorem mw_603 : Jvm.Cond.laysStatic "java/lang/Throwable" "UNASSIGNED_STACK" "[Ljava/lang/StackTraceElement;" ∈ lw_tbl := mt_3 _ (List.mem_of_getElem? (i := 123) rfl)
theorem gw_604 : Jvm.Cond.fieldLink "java/lang/Throwable" (20 : Nat) "java/lang/Throwable" "SUPPRESSED_SENTINEL" "Ljava/util/List;" ∈ gw := gw_of (mt_3 _ (List.mem_of_getElem? (i := 124) rfl)) rfl
theorem mw_605 : Jvm.Cond.laysStatic "java/lang/Throwable" "SUPPRESSED_SENTINEL" "Ljava/util/List;" ∈ lw_tbl := mt_3 _ (List.mem_of_getElem? (i := 125) rfl)
theorem gw_606 : Jvm.Cond.methodLink "java/lang/Throwable" (27 : Nat) ({ cls := "java/lang/Throwable", name := "fillInStackTrace", desc := "()Ljava/lang/Throwable;" } : Jvm.MethodName) ∈ gw := gw_of (mt_3 _ (List.mem_of_getElem? (i := 126) rfl)) rfl
theorem gw_607 : Jvm.Cond.instanceMethod ({ cls := "java/lang/Throwable", name := "fillInStackTrace", desc := "()Ljava/lang/Throwable;" } : Jvm.MethodName) ∈ gw := gw_of (mt_3 _ (List.mem_of_getElem? (i := 127) rfl)) rfl
theorem gw_608 : Jvm.Cond.sameMethod "java/lang/Throwable" "java/lang/Throwable" "fillInStackTrace" "()Ljava/lang/Throwable;" ∈ gw := gw_of (mt_3 _ (List.mem_of_getElem? (i := 128) rfl)) rfl
theorem gw_609 : Jvm.Cond.selects "java/lang/IllegalArgumentException" ({ cls := "java/lang/Throwable", name := "fillInStackTrace", desc := "()Ljava/lang/Throwable;" } : Jvm.MethodName) ({ cls := "java/lang/Throwable", name := "fillInStackTrace", desc := "()Ljava/lang/Throwable;" } : Jvm.MethodName) ∈ gw := gw_of (mt_3 _ (List.mem_of_getElem? (i := 129) rfl)) rfl
theorem gw_610 : Jvm.Cond.selects "java/util/NoSuchElementException" ({ cls := "java/lang/Throwable", name := "fillInStackTrace", desc := "()Ljava/lang/Throwable;" } : Jvm.MethodName) ({ cls := "java/lang/Throwable", name := "fillInStackTrace", desc := "()Ljava/lang/Throwable;" } : Jvm.MethodName) ∈ gw := gw_of (mt_3 _ (List.mem_of_getElem? (i := 130) rfl)) rfl
theorem gw_611 : Jvm.Cond.codeSync ({ cls := "java/lang/Throwable", name := "fillInStackTrace", desc := "()Ljava/lang/Throwable;" } : Jvm.MethodName) prog_25_method_18_code (1 : Nat) (Option.some (Jvm.ClassFile.FieldType.object "java/lang/Throwable")) ∈ gw := gw_of (mt_3 _ (List.mem_of_getElem? (i := 131) rfl)) rfl
theorem gw_612 : Jvm.Cond.methodLink "java/lang/Throwable" (202 : Nat) ({ cls := "java/lang/Throwable", name := "fillInStackTrace", desc := "(I)Ljava/lang/Throwable;" } : Jvm.MethodName) ∈ gw := gw_of (mt_3 _ (List.mem_of_getElem? (i := 132) rfl)) rfl
theorem mw_613 : Jvm.Cond.privateMethod ({ cls := "java/lang/Throwable", name := "fillInStackTrace", desc := "(I)Ljava/lang/Throwable;" } : Jvm.MethodName) ∈ lw_tbl := mt_3 _ (List.mem_of_getElem? (i := 133) rfl)
theorem gw_614 : Jvm.Cond.instanceMethod ({ cls := "java/lang/Throwable", name := "fillInStackTrace", desc := "(I)Ljava/lang/Throwable;" } : Jvm.MethodName) ∈ gw := gw_of (mt_3 _ (List.mem_of_getElem? (i := 134) rfl)) rfl
theorem gw_615 : Jvm.Cond.instantiable "java/lang/Throwable" (6 : Nat) ∈ gw := gw_of (mt_3 _ (List.mem_of_getElem? (i := 135) rfl)) rfl
theorem gw_616 : Jvm.Cond.native ({ cls := "java/lang/Throwable", name := "fillInStackTrace", desc := "(I)Ljava/lang/Throwable;" } : Jvm.MethodName) ∈ gw := gw_of (mt_3 _ (List.mem_of_getElem? (i := 136) rfl)) rfl
theorem gw_617 : Jvm.Cond.methodLink "CoinKeeper" (85 : Nat) ({ cls := "java/lang/IllegalStateException", name := "<init>", desc := "()V" } : Jvm.MethodName) ∈ gw := gw_of (mt_3 _ (List.mem_of_getElem? (i := 137) rfl)) rfl
theorem gw_618 : Jvm.Cond.instanceMethod ({ cls := "java/lang/IllegalStateException", name := "<init>", desc := "()V" } : Jvm.MethodName) ∈ gw := gw_of (mt_3 _ (List.mem_of_getElem? (i := 138) rfl)) rfl
theorem gw_619 : Jvm.Cond.code ({ cls := "java/lang/IllegalStateException", name := "<init>", desc := "()V" } : Jvm.MethodName) prog_19_method_1_code (1 : Nat) (Option.none : Option Jvm.ClassFile.FieldType) ∈ gw := gw_of (mt_3 _ (List.mem_of_getElem? (i := 139) rfl)) rfl
theorem gw_620 : Jvm.Cond.methodLink "java/lang/IllegalStateException" (1 : Nat) ({ cls := "java/lang/RuntimeException", name := "<init>", desc := "()V" } : Jvm.MethodName) ∈ gw := gw_of (mt_3 _ (List.mem_of_getElem? (i := 140) rfl)) rfl
theorem gw_621 : Jvm.Cond.instanceMethod ({ cls := "java/lang/RuntimeException", name := "<init>", desc := "()V" } : Jvm.MethodName) ∈ gw := gw_of (mt_3 _ (List.mem_of_getElem? (i := 141) rfl)) rfl
theorem gw_622 : Jvm.Cond.code ({ cls := "java/lang/RuntimeException", name := "<init>", desc := "()V" } : Jvm.MethodName) prog_23_method_1_code (1 : Nat) (Option.none : Option Jvm.ClassFile.FieldType) ∈ gw := gw_of (mt_3 _ (List.mem_of_getElem? (i := 142) rfl)) rfl
theorem gw_623 : Jvm.Cond.methodLink "java/lang/RuntimeException" (1 : Nat) ({ cls := "java/lang/Exception", name := "<init>", desc := "()V" } : Jvm.MethodName) ∈ gw := gw_of (mt_3 _ (List.mem_of_getElem? (i := 143) rfl)) rfl
theorem gw_624 : Jvm.Cond.instanceMethod ({ cls := "java/lang/Exception", name := "<init>", desc := "()V" } : Jvm.MethodName) ∈ gw := gw_of (mt_3 _ (List.mem_of_getElem? (i := 144) rfl)) rfl
theorem gw_625 : Jvm.Cond.code ({ cls := "java/lang/Exception", name := "<init>", desc := "()V" } : Jvm.MethodName) prog_17_method_1_code (1 : Nat) (Option.none : Option Jvm.ClassFile.FieldType) ∈ gw := gw_of (mt_3 _ (List.mem_of_getElem? (i := 145) rfl)) rfl
theorem gw_626 : Jvm.Cond.methodLink "java/lang/Exception" (1 : Nat) ({ cls := "java/lang/Throwable", name := "<init>", desc := "()V" } : Jvm.MethodName) ∈ gw := gw_of (mt_3 _ (List.mem_of_getElem? (i := 146) rfl)) rfl
theorem gw_627 : Jvm.Cond.fieldLink "java/lang/Throwable" (198 : Nat) "java/lang/Throwable" "backtrace" "Ljava/lang/Object;" ∈ gw := gw_of (mt_3 _ (List.mem_of_getElem? (i := 147) rfl)) rfl
theorem gw_628 : Jvm.Cond.fieldLink "java/lang/Throwable" (7 : Nat) "java/lang/Throwable" "cause" "Ljava/lang/Throwable;" ∈ gw := gw_of (mt_3 _ (List.mem_of_getElem? (i := 148) rfl)) rfl
theorem gw_629 : Jvm.Cond.fieldLink "java/lang/Throwable" (17 : Nat) "java/lang/Throwable" "stackTrace" "[Ljava/lang/StackTraceElement;" ∈ gw := gw_of (mt_3 _ (List.mem_of_getElem? (i := 149) rfl)) rfl
theorem gw_630 : Jvm.Cond.fieldLink "java/lang/Throwable" (24 : Nat) "java/lang/Throwable" "suppressedExceptions" "Ljava/util/List;" ∈ gw := gw_of (mt_3 _ (List.mem_of_getElem? (i := 150) rfl)) rfl
theorem gw_631 : Jvm.Cond.soleField "java/lang/Throwable" "backtrace" ∈ gw := gw_of (mt_3 _ (List.mem_of_getElem? (i := 151) rfl)) rfl
theorem gw_632 : Jvm.Cond.soleField "java/lang/Throwable" "detailMessage" ∈ gw := gw_of (mt_3 _ (List.mem_of_getElem? (i := 152) rfl)) rfl
theorem gw_633 : Jvm.Cond.soleField "java/lang/Throwable" "cause" ∈ gw := gw_of (mt_3 _ (List.mem_of_getElem? (i := 153) rfl)) rfl
theorem gw_634 : Jvm.Cond.soleField "java/lang/Throwable" "stackTrace" ∈ gw := gw_of (mt_3 _ (List.mem_of_getElem? (i := 154) rfl)) rfl
theorem gw_635 : Jvm.Cond.lays "java/lang/IllegalStateException" "java/lang/Throwable" "depth" "I" ∈ gw := gw_of (mt_3 _ (List.mem_of_getElem? (i := 155) rfl)) rfl
theorem gw_636 : Jvm.Cond.soleField "java/lang/Throwable" "depth" ∈ gw := gw_of (mt_3 _ (List.mem_of_getElem? (i := 156) rfl)) rfl
theorem gw_637 : Jvm.Cond.soleField "java/lang/Throwable" "suppressedExceptions" ∈ gw := gw_of (mt_3 _ (List.mem_of_getElem? (i := 157) rfl)) rfl
theorem gw_638 : Jvm.Cond.superclass "java/lang/IllegalStateException" "java/lang/RuntimeException" ∈ gw := gw_of (mt_3 _ (List.mem_of_getElem? (i := 158) rfl)) rfl
theorem gw_639 : Jvm.Cond.methodLink "CoinKeeper" (86 : Nat) ({ cls := "CoinKeeper", name := "append", desc := "(I)V" } : Jvm.MethodName) ∈ gw := gw_of (mt_3 _ (List.mem_of_getElem? (i := 159) rfl)) rfl
theorem mw_640 : Jvm.Cond.privateMethod ({ cls := "CoinKeeper", name := "append", desc := "(I)V" } : Jvm.MethodName) ∈ lw_tbl := mt_3 _ (List.mem_of_getElem? (i := 160) rfl)
theorem gw_641 : Jvm.Cond.instanceMethod ({ cls := "CoinKeeper", name := "append", desc := "(I)V" } : Jvm.MethodName) ∈ gw := gw_of (mt_3 _ (List.mem_of_getElem? (i := 161) rfl)) rfl
theorem gw_642 : Jvm.Cond.code ({ cls := "CoinKeeper", name := "append", desc := "(I)V" } : Jvm.MethodName) prog_1_method_12_code (3 : Nat) (Option.none : Option Jvm.ClassFile.FieldType) ∈ gw := gw_of (mt_3 _ (List.mem_of_getElem? (i := 162) rfl)) rfl
theorem gw_643 : Jvm.Cond.methodLink "CoinKeeperLaw" (60 : Nat) ({ cls := "CoinKeeperLaw", name := "end", desc := "(LCoinKeeper;I[J)I" } : Jvm.MethodName) ∈ gw := gw_of (mt_3 _ (List.mem_of_getElem? (i := 163) rfl)) rfl
theorem gw_644 : Jvm.Cond.static ({ cls := "CoinKeeperLaw", name := "end", desc := "(LCoinKeeper;I[J)I" } : Jvm.MethodName) ∈ gw := gw_of (mt_3 _ (List.mem_of_getElem? (i := 164) rfl)) rfl
theorem gw_645 : Jvm.Cond.codeWith ({ cls := "CoinKeeperLaw", name := "end", desc := "(LCoinKeeper;I[J)I" } : Jvm.MethodName) method_4_code (4 : Nat) (Option.some Jvm.ClassFile.FieldType.int) [((0 : Nat), (9 : Nat), (12 : Nat), (19 : Nat))] ∈ gw := gw_of (mt_3 _ (List.mem_of_getElem? (i := 165) rfl)) rfl
theorem gw_646 : Jvm.Cond.classLink "CoinKeeperLaw" (19 : Nat) "java/lang/IllegalArgumentException" ∈ gw := gw_of (mt_3 _ (List.mem_of_getElem? (i := 166) rfl)) rfl
theorem gw_647 : Jvm.Cond.methodLink "CoinKeeperLaw" (15 : Nat) ({ cls := "CoinKeeper", name := "end", desc := "(I)I" } : Jvm.MethodName) ∈ gw := gw_of (mt_3 _ (List.mem_of_getElem? (i := 167) rfl)) rfl
theorem gw_648 : Jvm.Cond.instanceMethod ({ cls := "CoinKeeper", name := "end", desc := "(I)I" } : Jvm.MethodName) ∈ gw := gw_of (mt_3 _ (List.mem_of_getElem? (i := 168) rfl)) rfl
theorem gw_649 : Jvm.Cond.selects "CoinKeeper" ({ cls := "CoinKeeper", name := "end", desc := "(I)I" } : Jvm.MethodName) ({ cls := "CoinKeeper", name := "end", desc := "(I)I" } : Jvm.MethodName) ∈ gw := gw_of (mt_3 _ (List.mem_of_getElem? (i := 169) rfl)) rfl
theorem gw_650 : Jvm.Cond.code ({ cls := "CoinKeeper", name := "end", desc := "(I)I" } : Jvm.MethodName) prog_1_method_3_code (2 : Nat) (Option.some Jvm.ClassFile.FieldType.int) ∈ gw := gw_of (mt_3 _ (List.mem_of_getElem? (i := 170) rfl)) rfl
theorem gw_651 : Jvm.Cond.classLink "CoinKeeper" (90 : Nat) "java/lang/IllegalArgumentException" ∈ gw := gw_of (mt_3 _ (List.mem_of_getElem? (i := 171) rfl)) rfl
theorem gw_652 : Jvm.Cond.instantiable "java/lang/IllegalArgumentException" (6 : Nat) ∈ gw := gw_of (mt_3 _ (List.mem_of_getElem? (i := 172) rfl)) rfl
theorem mw_653 : Jvm.Cond.castable "java/lang/IllegalArgumentException" "java/lang/IllegalArgumentException" ∈ lw_tbl := mt_3 _ (List.mem_of_getElem? (i := 173) rfl)
theorem gw_654 : Jvm.Cond.selects "java/lang/IllegalArgumentException" ({ cls := "java/lang/Throwable", name := "fillInStackTrace", desc := "(I)Ljava/lang/Throwable;" } : Jvm.MethodName) ({ cls := "java/lang/Throwable", name := "fillInStackTrace", desc := "(I)Ljava/lang/Throwable;" } : Jvm.MethodName) ∈ gw := gw_of (mt_3 _ (List.mem_of_getElem? (i := 174) rfl)) rfl
theorem gw_655 : Jvm.Cond.lays "java/lang/IllegalArgumentException" "java/lang/Throwable" "cause" "Ljava/lang/Throwable;" ∈ gw := gw_of (mt_3 _ (List.mem_of_getElem? (i := 175) rfl)) rfl
theorem gw_656 : Jvm.Cond.lays "java/lang/IllegalArgumentException" "java/lang/Throwable" "stackTrace" "[Ljava/lang/StackTraceElement;" ∈ gw := gw_of (mt_3 _ (List.mem_of_getElem? (i := 176) rfl)) rfl
theorem gw_657 : Jvm.Cond.lays "java/lang/IllegalArgumentException" "java/lang/Throwable" "suppressedExceptions" "Ljava/util/List;" ∈ gw := gw_of (mt_3 _ (List.mem_of_getElem? (i := 177) rfl)) rfl
theorem gw_658 : Jvm.Cond.lays "java/lang/IllegalArgumentException" "java/lang/Throwable" "detailMessage" "Ljava/lang/String;" ∈ gw := gw_of (mt_3 _ (List.mem_of_getElem? (i := 178) rfl)) rfl
theorem gw_659 : Jvm.Cond.lays "java/lang/IllegalArgumentException" "java/lang/Throwable" "backtrace" "Ljava/lang/Object;" ∈ gw := gw_of (mt_3 _ (List.mem_of_getElem? (i := 179) rfl)) rfl
theorem gw_660 : Jvm.Cond.methodLink "CoinKeeper" (92 : Nat) ({ cls := "java/lang/IllegalArgumentException", name := "<init>", desc := "()V" } : Jvm.MethodName) ∈ gw := gw_of (mt_3 _ (List.mem_of_getElem? (i := 180) rfl)) rfl
theorem gw_661 : Jvm.Cond.instanceMethod ({ cls := "java/lang/IllegalArgumentException", name := "<init>", desc := "()V" } : Jvm.MethodName) ∈ gw := gw_of (mt_3 _ (List.mem_of_getElem? (i := 181) rfl)) rfl
theorem gw_662 : Jvm.Cond.code ({ cls := "java/lang/IllegalArgumentException", name := "<init>", desc := "()V" } : Jvm.MethodName) prog_18_method_1_code (1 : Nat) (Option.none : Option Jvm.ClassFile.FieldType) ∈ gw := gw_of (mt_3 _ (List.mem_of_getElem? (i := 182) rfl)) rfl
theorem gw_663 : Jvm.Cond.methodLink "java/lang/IllegalArgumentException" (1 : Nat) ({ cls := "java/lang/RuntimeException", name := "<init>", desc := "()V" } : Jvm.MethodName) ∈ gw := gw_of (mt_3 _ (List.mem_of_getElem? (i := 183) rfl)) rfl
theorem gw_664 : Jvm.Cond.lays "java/lang/IllegalArgumentException" "java/lang/Throwable" "depth" "I" ∈ gw := gw_of (mt_3 _ (List.mem_of_getElem? (i := 184) rfl)) rfl
theorem gw_665 : Jvm.Cond.superclass "java/lang/IllegalArgumentException" "java/lang/RuntimeException" ∈ gw := gw_of (mt_3 _ (List.mem_of_getElem? (i := 185) rfl)) rfl
theorem gw_666 : Jvm.Cond.methodLink "CoinKeeperLaw" (64 : Nat) ({ cls := "CoinKeeperLaw", name := "submit", desc := "(LCoinKeeper;[J)I" } : Jvm.MethodName) ∈ gw := gw_of (mt_3 _ (List.mem_of_getElem? (i := 186) rfl)) rfl
theorem gw_667 : Jvm.Cond.static ({ cls := "CoinKeeperLaw", name := "submit", desc := "(LCoinKeeper;[J)I" } : Jvm.MethodName) ∈ gw := gw_of (mt_3 _ (List.mem_of_getElem? (i := 187) rfl)) rfl
theorem gw_668 : Jvm.Cond.codeWith ({ cls := "CoinKeeperLaw", name := "submit", desc := "(LCoinKeeper;[J)I" } : Jvm.MethodName) method_5_code (3 : Nat) (Option.some Jvm.ClassFile.FieldType.int) [((0 : Nat), (8 : Nat), (11 : Nat), (13 : Nat))] ∈ gw := gw_of (mt_3 _ (List.mem_of_getElem? (i := 188) rfl)) rfl
theorem gw_669 : Jvm.Cond.methodLink "CoinKeeperLaw" (21 : Nat) ({ cls := "CoinKeeper", name := "submit", desc := "()I" } : Jvm.MethodName) ∈ gw := gw_of (mt_3 _ (List.mem_of_getElem? (i := 189) rfl)) rfl
theorem gw_670 : Jvm.Cond.instanceMethod ({ cls := "CoinKeeper", name := "submit", desc := "()I" } : Jvm.MethodName) ∈ gw := gw_of (mt_3 _ (List.mem_of_getElem? (i := 190) rfl)) rfl
theorem gw_671 : Jvm.Cond.selects "CoinKeeper" ({ cls := "CoinKeeper", name := "submit", desc := "()I" } : Jvm.MethodName) ({ cls := "CoinKeeper", name := "submit", desc := "()I" } : Jvm.MethodName) ∈ gw := gw_of (mt_3 _ (List.mem_of_getElem? (i := 191) rfl)) rfl
theorem gw_672 : Jvm.Cond.code ({ cls := "CoinKeeper", name := "submit", desc := "()I" } : Jvm.MethodName) prog_1_method_4_code (7 : Nat) (Option.some Jvm.ClassFile.FieldType.int) ∈ gw := gw_of (mt_3 _ (List.mem_of_getElem? (i := 192) rfl)) rfl
theorem gw_673 : Jvm.Cond.methodLink "CoinKeeper" (93 : Nat) ({ cls := "java/util/ArrayList", name := "size", desc := "()I" } : Jvm.MethodName) ∈ gw := gw_of (mt_3 _ (List.mem_of_getElem? (i := 193) rfl)) rfl
theorem gw_674 : Jvm.Cond.constant "CoinKeeper" (100 : Nat) (100000 : Int32) ∈ gw := gw_of (mt_3 _ (List.mem_of_getElem? (i := 194) rfl)) rfl
theorem gw_675 : Jvm.Cond.methodLink "CoinKeeper" (101 : Nat) ({ cls := "CoinKeeper", name := "refusal", desc := "(I)I" } : Jvm.MethodName) ∈ gw := gw_of (mt_3 _ (List.mem_of_getElem? (i := 195) rfl)) rfl
theorem mw_676 : Jvm.Cond.privateMethod ({ cls := "CoinKeeper", name := "refusal", desc := "(I)I" } : Jvm.MethodName) ∈ lw_tbl := mt_3 _ (List.mem_of_getElem? (i := 196) rfl)
theorem gw_677 : Jvm.Cond.instanceMethod ({ cls := "CoinKeeper", name := "refusal", desc := "(I)I" } : Jvm.MethodName) ∈ gw := gw_of (mt_3 _ (List.mem_of_getElem? (i := 197) rfl)) rfl
theorem gw_678 : Jvm.Cond.code ({ cls := "CoinKeeper", name := "refusal", desc := "(I)I" } : Jvm.MethodName) prog_1_method_13_code (6 : Nat) (Option.some Jvm.ClassFile.FieldType.int) ∈ gw := gw_of (mt_3 _ (List.mem_of_getElem? (i := 198) rfl)) rfl
theorem gw_679 : Jvm.Cond.methodLink "CoinKeeper" (205 : Nat) ({ cls := "CoinKeeper$Layout", name := "read", desc := "([BI)Z" } : Jvm.MethodName) ∈ gw := gw_of (mt_3 _ (List.mem_of_getElem? (i := 199) rfl)) rfl
theorem gw_680 : Jvm.Cond.instanceMethod ({ cls := "CoinKeeper$Layout", name := "read", desc := "([BI)Z" } : Jvm.MethodName) ∈ gw := gw_of (mt_3 _ (List.mem_of_getElem? (i := 200) rfl)) rfl
theorem gw_681 : Jvm.Cond.selects "CoinKeeper$Layout" ({ cls := "CoinKeeper$Layout", name := "read", desc := "([BI)Z" } : Jvm.MethodName) ({ cls := "CoinKeeper$Layout", name := "read", desc := "([BI)Z" } : Jvm.MethodName) ∈ gw := gw_of (mt_3 _ (List.mem_of_getElem? (i := 201) rfl)) rfl
theorem gw_682 : Jvm.Cond.code ({ cls := "CoinKeeper$Layout", name := "read", desc := "([BI)Z" } : Jvm.MethodName) prog_5_method_2_code (6 : Nat) (Option.some Jvm.ClassFile.FieldType.boolean) ∈ gw := gw_of (mt_3 _ (List.mem_of_getElem? (i := 202) rfl)) rfl
theorem gw_683 : Jvm.Cond.constantLong "CoinKeeper$Layout" (59 : Nat) (-1 : Int64) ∈ gw := gw_of (mt_3 _ (List.mem_of_getElem? (i := 203) rfl)) rfl
theorem gw_684 : Jvm.Cond.methodLink "CoinKeeper$Layout" (61 : Nat) ({ cls := "CoinKeeper$Layout", name := "readCount", desc := "()J" } : Jvm.MethodName) ∈ gw := gw_of (mt_3 _ (List.mem_of_getElem? (i := 204) rfl)) rfl
theorem mw_685 : Jvm.Cond.privateMethod ({ cls := "CoinKeeper$Layout", name := "readCount", desc := "()J" } : Jvm.MethodName) ∈ lw_tbl := mt_3 _ (List.mem_of_getElem? (i := 205) rfl)
theorem gw_686 : Jvm.Cond.instanceMethod ({ cls := "CoinKeeper$Layout", name := "readCount", desc := "()J" } : Jvm.MethodName) ∈ gw := gw_of (mt_3 _ (List.mem_of_getElem? (i := 206) rfl)) rfl
theorem gw_687 : Jvm.Cond.code ({ cls := "CoinKeeper$Layout", name := "readCount", desc := "()J" } : Jvm.MethodName) prog_5_method_6_code (6 : Nat) (Option.some Jvm.ClassFile.FieldType.long) ∈ gw := gw_of (mt_3 _ (List.mem_of_getElem? (i := 207) rfl)) rfl
theorem gw_688 : Jvm.Cond.constant "CoinKeeper$Layout" (82 : Nat) (65536 : Int32) ∈ gw := gw_of (mt_3 _ (List.mem_of_getElem? (i := 208) rfl)) rfl
theorem gw_689 : Jvm.Cond.constantLong "CoinKeeper$Layout" (65 : Nat) (10 : Int64) ∈ gw := gw_of (mt_3 _ (List.mem_of_getElem? (i := 209) rfl)) rfl
theorem gw_690 : Jvm.Cond.methodLink "CoinKeeper$Layout" (67 : Nat) ({ cls := "CoinKeeper$Layout", name := "readTx", desc := "(I)Z" } : Jvm.MethodName) ∈ gw := gw_of (mt_3 _ (List.mem_of_getElem? (i := 210) rfl)) rfl
theorem mw_691 : Jvm.Cond.privateMethod ({ cls := "CoinKeeper$Layout", name := "readTx", desc := "(I)Z" } : Jvm.MethodName) ∈ lw_tbl := mt_3 _ (List.mem_of_getElem? (i := 211) rfl)
theorem gw_692 : Jvm.Cond.instanceMethod ({ cls := "CoinKeeper$Layout", name := "readTx", desc := "(I)Z" } : Jvm.MethodName) ∈ gw := gw_of (mt_3 _ (List.mem_of_getElem? (i := 212) rfl)) rfl
theorem gw_693 : Jvm.Cond.code ({ cls := "CoinKeeper$Layout", name := "readTx", desc := "(I)Z" } : Jvm.MethodName) prog_5_method_3_code (5 : Nat) (Option.some Jvm.ClassFile.FieldType.boolean) ∈ gw := gw_of (mt_3 _ (List.mem_of_getElem? (i := 213) rfl)) rfl
theorem gw_694 : Jvm.Cond.constantLong "CoinKeeper$Layout" (71 : Nat) (41 : Int64) ∈ gw := gw_of (mt_3 _ (List.mem_of_getElem? (i := 214) rfl)) rfl
theorem gw_695 : Jvm.Cond.methodLink "CoinKeeper$Layout" (73 : Nat) ({ cls := "CoinKeeper$Layout", name := "readIn", desc := "()Z" } : Jvm.MethodName) ∈ gw := gw_of (mt_3 _ (List.mem_of_getElem? (i := 215) rfl)) rfl
theorem mw_696 : Jvm.Cond.privateMethod ({ cls := "CoinKeeper$Layout", name := "readIn", desc := "()Z" } : Jvm.MethodName) ∈ lw_tbl := mt_3 _ (List.mem_of_getElem? (i := 216) rfl)
theorem gw_697 : Jvm.Cond.instanceMethod ({ cls := "CoinKeeper$Layout", name := "readIn", desc := "()Z" } : Jvm.MethodName) ∈ gw := gw_of (mt_3 _ (List.mem_of_getElem? (i := 217) rfl)) rfl
theorem gw_698 : Jvm.Cond.code ({ cls := "CoinKeeper$Layout", name := "readIn", desc := "()Z" } : Jvm.MethodName) prog_5_method_4_code (3 : Nat) (Option.some Jvm.ClassFile.FieldType.boolean) ∈ gw := gw_of (mt_3 _ (List.mem_of_getElem? (i := 218) rfl)) rfl
theorem gw_699 : Jvm.Cond.constantLong "CoinKeeper$Layout" (77 : Nat) (9 : Int64) ∈ gw := gw_of (mt_3 _ (List.mem_of_getElem? (i := 219) rfl)) rfl
theorem gw_700 : Jvm.Cond.methodLink "CoinKeeper$Layout" (79 : Nat) ({ cls := "CoinKeeper$Layout", name := "readOut", desc := "()Z" } : Jvm.MethodName) ∈ gw := gw_of (mt_3 _ (List.mem_of_getElem? (i := 220) rfl)) rfl
theorem mw_701 : Jvm.Cond.privateMethod ({ cls := "CoinKeeper$Layout", name := "readOut", desc := "()Z" } : Jvm.MethodName) ∈ lw_tbl := mt_3 _ (List.mem_of_getElem? (i := 221) rfl)
theorem gw_702 : Jvm.Cond.instanceMethod ({ cls := "CoinKeeper$Layout", name := "readOut", desc := "()Z" } : Jvm.MethodName) ∈ gw := gw_of (mt_3 _ (List.mem_of_getElem? (i := 222) rfl)) rfl
theorem gw_703 : Jvm.Cond.code ({ cls := "CoinKeeper$Layout", name := "readOut", desc := "()Z" } : Jvm.MethodName) prog_5_method_5_code (3 : Nat) (Option.some Jvm.ClassFile.FieldType.boolean) ∈ gw := gw_of (mt_3 _ (List.mem_of_getElem? (i := 223) rfl)) rfl
theorem gw_704 : Jvm.Cond.methodLink "CoinKeeper" (162 : Nat) ({ cls := "CoinKeeper$Sha256", name := "twice", desc := "([BII[BI)V" } : Jvm.MethodName) ∈ gw := gw_of (mt_3 _ (List.mem_of_getElem? (i := 224) rfl)) rfl
theorem gw_705 : Jvm.Cond.instanceMethod ({ cls := "CoinKeeper$Sha256", name := "twice", desc := "([BII[BI)V" } : Jvm.MethodName) ∈ gw := gw_of (mt_3 _ (List.mem_of_getElem? (i := 225) rfl)) rfl
theorem gw_706 : Jvm.Cond.selects "CoinKeeper$Sha256" ({ cls := "CoinKeeper$Sha256", name := "twice", desc := "([BII[BI)V" } : Jvm.MethodName) ({ cls := "CoinKeeper$Sha256", name := "twice", desc := "([BII[BI)V" } : Jvm.MethodName) ∈ gw := gw_of (mt_3 _ (List.mem_of_getElem? (i := 226) rfl)) rfl
theorem gw_707 : Jvm.Cond.code ({ cls := "CoinKeeper$Sha256", name := "twice", desc := "([BII[BI)V" } : Jvm.MethodName) prog_11_method_2_code (6 : Nat) (Option.none : Option Jvm.ClassFile.FieldType) ∈ gw := gw_of (mt_3 _ (List.mem_of_getElem? (i := 227) rfl)) rfl
theorem gw_708 : Jvm.Cond.methodLink "CoinKeeper$Sha256" (20 : Nat) ({ cls := "CoinKeeper$Sha256", name := "once", desc := "([BII[BI)V" } : Jvm.MethodName) ∈ gw := gw_of (mt_3 _ (List.mem_of_getElem? (i := 228) rfl)) rfl
theorem gw_709 : Jvm.Cond.instanceMethod ({ cls := "CoinKeeper$Sha256", name := "once", desc := "([BII[BI)V" } : Jvm.MethodName) ∈ gw := gw_of (mt_3 _ (List.mem_of_getElem? (i := 229) rfl)) rfl
theorem gw_710 : Jvm.Cond.selects "CoinKeeper$Sha256" ({ cls := "CoinKeeper$Sha256", name := "once", desc := "([BII[BI)V" } : Jvm.MethodName) ({ cls := "CoinKeeper$Sha256", name := "once", desc := "([BII[BI)V" } : Jvm.MethodName) ∈ gw := gw_of (mt_3 _ (List.mem_of_getElem? (i := 230) rfl)) rfl
theorem gw_711 : Jvm.Cond.code ({ cls := "CoinKeeper$Sha256", name := "once", desc := "([BII[BI)V" } : Jvm.MethodName) prog_11_method_3_code (6 : Nat) (Option.none : Option Jvm.ClassFile.FieldType) ∈ gw := gw_of (mt_3 _ (List.mem_of_getElem? (i := 231) rfl)) rfl
theorem gw_712 : Jvm.Cond.methodLink "CoinKeeper$Sha256" (24 : Nat) ({ cls := "CoinKeeper$Sha256", name := "begin", desc := "()V" } : Jvm.MethodName) ∈ gw := gw_of (mt_3 _ (List.mem_of_getElem? (i := 232) rfl)) rfl
theorem gw_713 : Jvm.Cond.instanceMethod ({ cls := "CoinKeeper$Sha256", name := "begin", desc := "()V" } : Jvm.MethodName) ∈ gw := gw_of (mt_3 _ (List.mem_of_getElem? (i := 233) rfl)) rfl
theorem gw_714 : Jvm.Cond.selects "CoinKeeper$Sha256" ({ cls := "CoinKeeper$Sha256", name := "begin", desc := "()V" } : Jvm.MethodName) ({ cls := "CoinKeeper$Sha256", name := "begin", desc := "()V" } : Jvm.MethodName) ∈ gw := gw_of (mt_3 _ (List.mem_of_getElem? (i := 234) rfl)) rfl
theorem gw_715 : Jvm.Cond.code ({ cls := "CoinKeeper$Sha256", name := "begin", desc := "()V" } : Jvm.MethodName) prog_11_method_4_code (1 : Nat) (Option.none : Option Jvm.ClassFile.FieldType) ∈ gw := gw_of (mt_3 _ (List.mem_of_getElem? (i := 235) rfl)) rfl
theorem gw_716 : Jvm.Cond.fieldLink "CoinKeeper$Sha256" (35 : Nat) "CoinKeeper$Sha256" "START" "[I" ∈ gw := gw_of (mt_3 _ (List.mem_of_getElem? (i := 236) rfl)) rfl
theorem mw_717 : Jvm.Cond.laysStatic "CoinKeeper$Sha256" "START" "[I" ∈ lw_tbl := mt_3 _ (List.mem_of_getElem? (i := 237) rfl)
theorem gw_718 : Jvm.Cond.methodLink "CoinKeeper$Sha256" (38 : Nat) ({ cls := "java/lang/System", name := "arraycopy", desc := "(Ljava/lang/Object;ILjava/lang/Object;II)V" } : Jvm.MethodName) ∈ gw := gw_of (mt_3 _ (List.mem_of_getElem? (i := 238) rfl)) rfl
theorem gw_719 : Jvm.Cond.methodLink "CoinKeeper$Sha256" (27 : Nat) ({ cls := "CoinKeeper$Sha256", name := "add", desc := "([BII)V" } : Jvm.MethodName) ∈ gw := gw_of (mt_3 _ (List.mem_of_getElem? (i := 239) rfl)) rfl
theorem gw_720 : Jvm.Cond.instanceMethod ({ cls := "CoinKeeper$Sha256", name := "add", desc := "([BII)V" } : Jvm.MethodName) ∈ gw := gw_of (mt_4 _ (List.mem_of_getElem? (i := 0) rfl)) rfl
theorem gw_721 : Jvm.Cond.selects "CoinKeeper$Sha256" ({ cls := "CoinKeeper$Sha256", name := "add", desc := "([BII)V" } : Jvm.MethodName) ({ cls := "CoinKeeper$Sha256", name := "add", desc := "([BII)V" } : Jvm.MethodName) ∈ gw := gw_of (mt_4 _ (List.mem_of_getElem? (i := 1) rfl)) rfl
theorem gw_722 : Jvm.Cond.code ({ cls := "CoinKeeper$Sha256", name := "add", desc := "([BII)V" } : Jvm.MethodName) prog_11_method_5_code (6 : Nat) (Option.none : Option Jvm.ClassFile.FieldType) ∈ gw := gw_of (mt_4 _ (List.mem_of_getElem? (i := 2) rfl)) rfl
theorem gw_723 : Jvm.Cond.methodLink "CoinKeeper$Sha256" (52 : Nat) ({ cls := "java/lang/Math", name := "min", desc := "(II)I" } : Jvm.MethodName) ∈ gw := gw_of (mt_4 _ (List.mem_of_getElem? (i := 3) rfl)) rfl
theorem gw_724 : Jvm.Cond.methodLink "CoinKeeper$Sha256" (58 : Nat) ({ cls := "CoinKeeper$Sha256", name := "mix", desc := "()V" } : Jvm.MethodName) ∈ gw := gw_of (mt_4 _ (List.mem_of_getElem? (i := 4) rfl)) rfl
theorem mw_725 : Jvm.Cond.privateMethod ({ cls := "CoinKeeper$Sha256", name := "mix", desc := "()V" } : Jvm.MethodName) ∈ lw_tbl := mt_4 _ (List.mem_of_getElem? (i := 5) rfl)
theorem gw_726 : Jvm.Cond.instanceMethod ({ cls := "CoinKeeper$Sha256", name := "mix", desc := "()V" } : Jvm.MethodName) ∈ gw := gw_of (mt_4 _ (List.mem_of_getElem? (i := 6) rfl)) rfl
theorem gw_727 : Jvm.Cond.code ({ cls := "CoinKeeper$Sha256", name := "mix", desc := "()V" } : Jvm.MethodName) prog_11_method_8_code (13 : Nat) (Option.none : Option Jvm.ClassFile.FieldType) ∈ gw := gw_of (mt_4 _ (List.mem_of_getElem? (i := 7) rfl)) rfl
theorem gw_728 : Jvm.Cond.fieldLink "CoinKeeper$Sha256" (67 : Nat) "CoinKeeper$Sha256" "K" "[I" ∈ gw := gw_of (mt_4 _ (List.mem_of_getElem? (i := 8) rfl)) rfl
theorem mw_729 : Jvm.Cond.laysStatic "CoinKeeper$Sha256" "K" "[I" ∈ lw_tbl := mt_4 _ (List.mem_of_getElem? (i := 9) rfl)
theorem gw_730 : Jvm.Cond.methodLink "CoinKeeper$Sha256" (31 : Nat) ({ cls := "CoinKeeper$Sha256", name := "finish", desc := "([BI)V" } : Jvm.MethodName) ∈ gw := gw_of (mt_4 _ (List.mem_of_getElem? (i := 10) rfl)) rfl
theorem gw_731 : Jvm.Cond.instanceMethod ({ cls := "CoinKeeper$Sha256", name := "finish", desc := "([BI)V" } : Jvm.MethodName) ∈ gw := gw_of (mt_4 _ (List.mem_of_getElem? (i := 11) rfl)) rfl
theorem gw_732 : Jvm.Cond.selects "CoinKeeper$Sha256" ({ cls := "CoinKeeper$Sha256", name := "finish", desc := "([BI)V" } : Jvm.MethodName) ({ cls := "CoinKeeper$Sha256", name := "finish", desc := "([BI)V" } : Jvm.MethodName) ∈ gw := gw_of (mt_4 _ (List.mem_of_getElem? (i := 12) rfl)) rfl
theorem gw_733 : Jvm.Cond.code ({ cls := "CoinKeeper$Sha256", name := "finish", desc := "([BI)V" } : Jvm.MethodName) prog_11_method_6_code (4 : Nat) (Option.none : Option Jvm.ClassFile.FieldType) ∈ gw := gw_of (mt_4 _ (List.mem_of_getElem? (i := 13) rfl)) rfl
theorem gw_734 : Jvm.Cond.methodLink "CoinKeeper$Sha256" (61 : Nat) ({ cls := "CoinKeeper$Sha256", name := "fillWithZeros", desc := "(I)V" } : Jvm.MethodName) ∈ gw := gw_of (mt_4 _ (List.mem_of_getElem? (i := 14) rfl)) rfl
theorem mw_735 : Jvm.Cond.privateMethod ({ cls := "CoinKeeper$Sha256", name := "fillWithZeros", desc := "(I)V" } : Jvm.MethodName) ∈ lw_tbl := mt_4 _ (List.mem_of_getElem? (i := 15) rfl)
theorem gw_736 : Jvm.Cond.instanceMethod ({ cls := "CoinKeeper$Sha256", name := "fillWithZeros", desc := "(I)V" } : Jvm.MethodName) ∈ gw := gw_of (mt_4 _ (List.mem_of_getElem? (i := 16) rfl)) rfl
theorem gw_737 : Jvm.Cond.code ({ cls := "CoinKeeper$Sha256", name := "fillWithZeros", desc := "(I)V" } : Jvm.MethodName) prog_11_method_7_code (3 : Nat) (Option.none : Option Jvm.ClassFile.FieldType) ∈ gw := gw_of (mt_4 _ (List.mem_of_getElem? (i := 17) rfl)) rfl
theorem gw_738 : Jvm.Cond.constantLong "CoinKeeper$Sha256" (65 : Nat) (8 : Int64) ∈ gw := gw_of (mt_4 _ (List.mem_of_getElem? (i := 18) rfl)) rfl
theorem gw_739 : Jvm.Cond.methodLink "CoinKeeper" (209 : Nat) ({ cls := "CoinKeeper", name := "blockOf", desc := "([BI)LCoinKeeper$Block;" } : Jvm.MethodName) ∈ gw := gw_of (mt_4 _ (List.mem_of_getElem? (i := 19) rfl)) rfl
theorem mw_740 : Jvm.Cond.privateMethod ({ cls := "CoinKeeper", name := "blockOf", desc := "([BI)LCoinKeeper$Block;" } : Jvm.MethodName) ∈ lw_tbl := mt_4 _ (List.mem_of_getElem? (i := 20) rfl)
theorem gw_741 : Jvm.Cond.instanceMethod ({ cls := "CoinKeeper", name := "blockOf", desc := "([BI)LCoinKeeper$Block;" } : Jvm.MethodName) ∈ gw := gw_of (mt_4 _ (List.mem_of_getElem? (i := 21) rfl)) rfl
theorem gw_742 : Jvm.Cond.code ({ cls := "CoinKeeper", name := "blockOf", desc := "([BI)LCoinKeeper$Block;" } : Jvm.MethodName) prog_1_method_14_code (4 : Nat) (Option.some (Jvm.ClassFile.FieldType.object "CoinKeeper$Block")) ∈ gw := gw_of (mt_4 _ (List.mem_of_getElem? (i := 22) rfl)) rfl
theorem gw_743 : Jvm.Cond.methodLink "CoinKeeper" (232 : Nat) ({ cls := "java/util/ArrayList", name := "get", desc := "(I)Ljava/lang/Object;" } : Jvm.MethodName) ∈ gw := gw_of (mt_4 _ (List.mem_of_getElem? (i := 23) rfl)) rfl
theorem gw_744 : Jvm.Cond.methodLink "CoinKeeper" (236 : Nat) ({ cls := "CoinKeeper", name := "same", desc := "([BI[BII)Z" } : Jvm.MethodName) ∈ gw := gw_of (mt_4 _ (List.mem_of_getElem? (i := 24) rfl)) rfl
theorem gw_745 : Jvm.Cond.static ({ cls := "CoinKeeper", name := "same", desc := "([BI[BII)Z" } : Jvm.MethodName) ∈ gw := gw_of (mt_4 _ (List.mem_of_getElem? (i := 25) rfl)) rfl
theorem gw_746 : Jvm.Cond.code ({ cls := "CoinKeeper", name := "same", desc := "([BI[BII)Z" } : Jvm.MethodName) prog_1_method_25_code (6 : Nat) (Option.some Jvm.ClassFile.FieldType.boolean) ∈ gw := gw_of (mt_4 _ (List.mem_of_getElem? (i := 26) rfl)) rfl
theorem gw_747 : Jvm.Cond.methodLink "CoinKeeper" (166 : Nat) ({ cls := "CoinKeeper", name := "word", desc := "([BI)I" } : Jvm.MethodName) ∈ gw := gw_of (mt_4 _ (List.mem_of_getElem? (i := 27) rfl)) rfl
theorem gw_748 : Jvm.Cond.methodLink "CoinKeeper" (177 : Nat) ({ cls := "CoinKeeper$Block", name := "wantedBits", desc := "()I" } : Jvm.MethodName) ∈ gw := gw_of (mt_4 _ (List.mem_of_getElem? (i := 28) rfl)) rfl
theorem gw_749 : Jvm.Cond.instanceMethod ({ cls := "CoinKeeper$Block", name := "wantedBits", desc := "()I" } : Jvm.MethodName) ∈ gw := gw_of (mt_4 _ (List.mem_of_getElem? (i := 29) rfl)) rfl
theorem gw_750 : Jvm.Cond.selects "CoinKeeper$Block" ({ cls := "CoinKeeper$Block", name := "wantedBits", desc := "()I" } : Jvm.MethodName) ({ cls := "CoinKeeper$Block", name := "wantedBits", desc := "()I" } : Jvm.MethodName) ∈ gw := gw_of (mt_4 _ (List.mem_of_getElem? (i := 30) rfl)) rfl
theorem gw_751 : Jvm.Cond.code ({ cls := "CoinKeeper$Block", name := "wantedBits", desc := "()I" } : Jvm.MethodName) prog_2_method_6_code (3 : Nat) (Option.some Jvm.ClassFile.FieldType.int) ∈ gw := gw_of (mt_4 _ (List.mem_of_getElem? (i := 31) rfl)) rfl
theorem gw_752 : Jvm.Cond.methodLink "CoinKeeper$Block" (58 : Nat) ({ cls := "CoinKeeper$Block", name := "ancestor", desc := "(I)LCoinKeeper$Block;" } : Jvm.MethodName) ∈ gw := gw_of (mt_4 _ (List.mem_of_getElem? (i := 32) rfl)) rfl
theorem gw_753 : Jvm.Cond.instanceMethod ({ cls := "CoinKeeper$Block", name := "ancestor", desc := "(I)LCoinKeeper$Block;" } : Jvm.MethodName) ∈ gw := gw_of (mt_4 _ (List.mem_of_getElem? (i := 33) rfl)) rfl
theorem gw_754 : Jvm.Cond.selects "CoinKeeper$Block" ({ cls := "CoinKeeper$Block", name := "ancestor", desc := "(I)LCoinKeeper$Block;" } : Jvm.MethodName) ({ cls := "CoinKeeper$Block", name := "ancestor", desc := "(I)LCoinKeeper$Block;" } : Jvm.MethodName) ∈ gw := gw_of (mt_4 _ (List.mem_of_getElem? (i := 34) rfl)) rfl
theorem gw_755 : Jvm.Cond.code ({ cls := "CoinKeeper$Block", name := "ancestor", desc := "(I)LCoinKeeper$Block;" } : Jvm.MethodName) prog_2_method_2_code (3 : Nat) (Option.some (Jvm.ClassFile.FieldType.object "CoinKeeper$Block")) ∈ gw := gw_of (mt_4 _ (List.mem_of_getElem? (i := 35) rfl)) rfl
theorem gw_756 : Jvm.Cond.constantLong "CoinKeeper$Block" (64 : Nat) (1200 : Int64) ∈ gw := gw_of (mt_4 _ (List.mem_of_getElem? (i := 36) rfl)) rfl
theorem gw_757 : Jvm.Cond.constantLong "CoinKeeper$Block" (66 : Nat) (19200 : Int64) ∈ gw := gw_of (mt_4 _ (List.mem_of_getElem? (i := 37) rfl)) rfl
theorem gw_758 : Jvm.Cond.methodLink "CoinKeeper$Block" (68 : Nat) ({ cls := "java/lang/Math", name := "min", desc := "(JJ)J" } : Jvm.MethodName) ∈ gw := gw_of (mt_4 _ (List.mem_of_getElem? (i := 38) rfl)) rfl
theorem gw_759 : Jvm.Cond.static ({ cls := "java/lang/Math", name := "min", desc := "(JJ)J" } : Jvm.MethodName) ∈ gw := gw_of (mt_4 _ (List.mem_of_getElem? (i := 39) rfl)) rfl
theorem gw_760 : Jvm.Cond.code ({ cls := "java/lang/Math", name := "min", desc := "(JJ)J" } : Jvm.MethodName) prog_22_method_70_code (4 : Nat) (Option.some Jvm.ClassFile.FieldType.long) ∈ gw := gw_of (mt_4 _ (List.mem_of_getElem? (i := 40) rfl)) rfl
theorem gw_761 : Jvm.Cond.methodLink "CoinKeeper$Block" (71 : Nat) ({ cls := "java/lang/Math", name := "max", desc := "(JJ)J" } : Jvm.MethodName) ∈ gw := gw_of (mt_4 _ (List.mem_of_getElem? (i := 41) rfl)) rfl
theorem gw_762 : Jvm.Cond.static ({ cls := "java/lang/Math", name := "max", desc := "(JJ)J" } : Jvm.MethodName) ∈ gw := gw_of (mt_4 _ (List.mem_of_getElem? (i := 42) rfl)) rfl
theorem gw_763 : Jvm.Cond.code ({ cls := "java/lang/Math", name := "max", desc := "(JJ)J" } : Jvm.MethodName) prog_22_method_66_code (4 : Nat) (Option.some Jvm.ClassFile.FieldType.long) ∈ gw := gw_of (mt_4 _ (List.mem_of_getElem? (i := 43) rfl)) rfl
theorem gw_764 : Jvm.Cond.methodLink "CoinKeeper$Block" (74 : Nat) ({ cls := "CoinKeeper$Block", name := "scaledBits", desc := "(IJ)I" } : Jvm.MethodName) ∈ gw := gw_of (mt_4 _ (List.mem_of_getElem? (i := 44) rfl)) rfl
theorem gw_765 : Jvm.Cond.static ({ cls := "CoinKeeper$Block", name := "scaledBits", desc := "(IJ)I" } : Jvm.MethodName) ∈ gw := gw_of (mt_4 _ (List.mem_of_getElem? (i := 45) rfl)) rfl
theorem gw_766 : Jvm.Cond.code ({ cls := "CoinKeeper$Block", name := "scaledBits", desc := "(IJ)I" } : Jvm.MethodName) prog_2_method_7_code (6 : Nat) (Option.some Jvm.ClassFile.FieldType.int) ∈ gw := gw_of (mt_4 _ (List.mem_of_getElem? (i := 46) rfl)) rfl
theorem gw_767 : Jvm.Cond.constant "CoinKeeper$Block" (78 : Nat) (16777215 : Int32) ∈ gw := gw_of (mt_4 _ (List.mem_of_getElem? (i := 47) rfl)) rfl
theorem gw_768 : Jvm.Cond.constantLong "CoinKeeper$Block" (79 : Nat) (4800 : Int64) ∈ gw := gw_of (mt_4 _ (List.mem_of_getElem? (i := 48) rfl)) rfl
theorem gw_769 : Jvm.Cond.constantLong "CoinKeeper$Block" (81 : Nat) (16777215 : Int64) ∈ gw := gw_of (mt_4 _ (List.mem_of_getElem? (i := 49) rfl)) rfl
theorem gw_770 : Jvm.Cond.constantLong "CoinKeeper$Block" (83 : Nat) (8388607 : Int64) ∈ gw := gw_of (mt_4 _ (List.mem_of_getElem? (i := 50) rfl)) rfl
theorem gw_771 : Jvm.Cond.methodLink "CoinKeeper" (216 : Nat) ({ cls := "CoinKeeper$Block", name := "isAbove", desc := "([BI)Z" } : Jvm.MethodName) ∈ gw := gw_of (mt_4 _ (List.mem_of_getElem? (i := 51) rfl)) rfl
theorem gw_772 : Jvm.Cond.static ({ cls := "CoinKeeper$Block", name := "isAbove", desc := "([BI)Z" } : Jvm.MethodName) ∈ gw := gw_of (mt_4 _ (List.mem_of_getElem? (i := 52) rfl)) rfl
theorem gw_773 : Jvm.Cond.code ({ cls := "CoinKeeper$Block", name := "isAbove", desc := "([BI)Z" } : Jvm.MethodName) prog_2_method_9_code (6 : Nat) (Option.some Jvm.ClassFile.FieldType.boolean) ∈ gw := gw_of (mt_4 _ (List.mem_of_getElem? (i := 53) rfl)) rfl
theorem gw_774 : Jvm.Cond.constantLong "CoinKeeper" (219 : Nat) (4294967295 : Int64) ∈ gw := gw_of (mt_4 _ (List.mem_of_getElem? (i := 54) rfl)) rfl
theorem gw_775 : Jvm.Cond.methodLink "CoinKeeper" (221 : Nat) ({ cls := "CoinKeeper$Block", name := "median", desc := "()J" } : Jvm.MethodName) ∈ gw := gw_of (mt_4 _ (List.mem_of_getElem? (i := 55) rfl)) rfl
theorem gw_776 : Jvm.Cond.instanceMethod ({ cls := "CoinKeeper$Block", name := "median", desc := "()J" } : Jvm.MethodName) ∈ gw := gw_of (mt_4 _ (List.mem_of_getElem? (i := 56) rfl)) rfl
theorem gw_777 : Jvm.Cond.selects "CoinKeeper$Block" ({ cls := "CoinKeeper$Block", name := "median", desc := "()J" } : Jvm.MethodName) ({ cls := "CoinKeeper$Block", name := "median", desc := "()J" } : Jvm.MethodName) ∈ gw := gw_of (mt_4 _ (List.mem_of_getElem? (i := 57) rfl)) rfl
theorem gw_778 : Jvm.Cond.code ({ cls := "CoinKeeper$Block", name := "median", desc := "()J" } : Jvm.MethodName) prog_2_method_5_code (5 : Nat) (Option.some Jvm.ClassFile.FieldType.long) ∈ gw := gw_of (mt_4 _ (List.mem_of_getElem? (i := 58) rfl)) rfl
theorem gw_779 : Jvm.Cond.methodLink "CoinKeeper" (224 : Nat) ({ cls := "CoinKeeper$Layout", name := "rootIsRight", desc := "(LCoinKeeper$Sha256;)Z" } : Jvm.MethodName) ∈ gw := gw_of (mt_4 _ (List.mem_of_getElem? (i := 59) rfl)) rfl
theorem gw_780 : Jvm.Cond.instanceMethod ({ cls := "CoinKeeper$Layout", name := "rootIsRight", desc := "(LCoinKeeper$Sha256;)Z" } : Jvm.MethodName) ∈ gw := gw_of (mt_4 _ (List.mem_of_getElem? (i := 60) rfl)) rfl
theorem gw_781 : Jvm.Cond.selects "CoinKeeper$Layout" ({ cls := "CoinKeeper$Layout", name := "rootIsRight", desc := "(LCoinKeeper$Sha256;)Z" } : Jvm.MethodName) ({ cls := "CoinKeeper$Layout", name := "rootIsRight", desc := "(LCoinKeeper$Sha256;)Z" } : Jvm.MethodName) ∈ gw := gw_of (mt_4 _ (List.mem_of_getElem? (i := 61) rfl)) rfl
theorem gw_782 : Jvm.Cond.code ({ cls := "CoinKeeper$Layout", name := "rootIsRight", desc := "(LCoinKeeper$Sha256;)Z" } : Jvm.MethodName) prog_5_method_8_code (5 : Nat) (Option.some Jvm.ClassFile.FieldType.boolean) ∈ gw := gw_of (mt_4 _ (List.mem_of_getElem? (i := 62) rfl)) rfl
theorem gw_783 : Jvm.Cond.methodLink "CoinKeeper$Layout" (89 : Nat) ({ cls := "CoinKeeper$Layout", name := "ids", desc := "(LCoinKeeper$Sha256;)[B" } : Jvm.MethodName) ∈ gw := gw_of (mt_4 _ (List.mem_of_getElem? (i := 63) rfl)) rfl
theorem gw_784 : Jvm.Cond.instanceMethod ({ cls := "CoinKeeper$Layout", name := "ids", desc := "(LCoinKeeper$Sha256;)[B" } : Jvm.MethodName) ∈ gw := gw_of (mt_4 _ (List.mem_of_getElem? (i := 64) rfl)) rfl
theorem gw_785 : Jvm.Cond.selects "CoinKeeper$Layout" ({ cls := "CoinKeeper$Layout", name := "ids", desc := "(LCoinKeeper$Sha256;)[B" } : Jvm.MethodName) ({ cls := "CoinKeeper$Layout", name := "ids", desc := "(LCoinKeeper$Sha256;)[B" } : Jvm.MethodName) ∈ gw := gw_of (mt_4 _ (List.mem_of_getElem? (i := 65) rfl)) rfl
theorem gw_786 : Jvm.Cond.code ({ cls := "CoinKeeper$Layout", name := "ids", desc := "(LCoinKeeper$Sha256;)[B" } : Jvm.MethodName) prog_5_method_7_code (4 : Nat) (Option.some (Jvm.ClassFile.FieldType.array Jvm.ClassFile.FieldType.byte)) ∈ gw := gw_of (mt_4 _ (List.mem_of_getElem? (i := 66) rfl)) rfl
theorem gw_787 : Jvm.Cond.methodLink "CoinKeeper$Layout" (83 : Nat) ({ cls := "CoinKeeper$Sha256", name := "twice", desc := "([BII[BI)V" } : Jvm.MethodName) ∈ gw := gw_of (mt_4 _ (List.mem_of_getElem? (i := 67) rfl)) rfl
theorem gw_788 : Jvm.Cond.methodLink "CoinKeeper$Layout" (93 : Nat) ({ cls := "java/lang/System", name := "arraycopy", desc := "(Ljava/lang/Object;ILjava/lang/Object;II)V" } : Jvm.MethodName) ∈ gw := gw_of (mt_4 _ (List.mem_of_getElem? (i := 68) rfl)) rfl
theorem mw_789 : Jvm.Cond.methodLinkNest "CoinKeeper$Layout" (99 : Nat) ({ cls := "CoinKeeper", name := "same", desc := "([BI[BII)Z" } : Jvm.MethodName) "CoinKeeper" ∈ lw_tbl := mt_4 _ (List.mem_of_getElem? (i := 69) rfl)
theorem gw_790 : Jvm.Cond.methodLink "CoinKeeper" (228 : Nat) ({ cls := "CoinKeeper$Layout", name := "isSound", desc := "(IJ)Z" } : Jvm.MethodName) ∈ gw := gw_of (mt_4 _ (List.mem_of_getElem? (i := 70) rfl)) rfl
theorem gw_791 : Jvm.Cond.instanceMethod ({ cls := "CoinKeeper$Layout", name := "isSound", desc := "(IJ)Z" } : Jvm.MethodName) ∈ gw := gw_of (mt_4 _ (List.mem_of_getElem? (i := 71) rfl)) rfl
theorem gw_792 : Jvm.Cond.selects "CoinKeeper$Layout" ({ cls := "CoinKeeper$Layout", name := "isSound", desc := "(IJ)Z" } : Jvm.MethodName) ({ cls := "CoinKeeper$Layout", name := "isSound", desc := "(IJ)Z" } : Jvm.MethodName) ∈ gw := gw_of (mt_4 _ (List.mem_of_getElem? (i := 72) rfl)) rfl
theorem gw_793 : Jvm.Cond.code ({ cls := "CoinKeeper$Layout", name := "isSound", desc := "(IJ)Z" } : Jvm.MethodName) prog_5_method_9_code (5 : Nat) (Option.some Jvm.ClassFile.FieldType.boolean) ∈ gw := gw_of (mt_4 _ (List.mem_of_getElem? (i := 73) rfl)) rfl
theorem gw_794 : Jvm.Cond.methodLink "CoinKeeper$Layout" (103 : Nat) ({ cls := "CoinKeeper$Layout", name := "amountsAreSound", desc := "(I)Z" } : Jvm.MethodName) ∈ gw := gw_of (mt_4 _ (List.mem_of_getElem? (i := 74) rfl)) rfl
theorem mw_795 : Jvm.Cond.privateMethod ({ cls := "CoinKeeper$Layout", name := "amountsAreSound", desc := "(I)Z" } : Jvm.MethodName) ∈ lw_tbl := mt_4 _ (List.mem_of_getElem? (i := 75) rfl)
theorem gw_796 : Jvm.Cond.instanceMethod ({ cls := "CoinKeeper$Layout", name := "amountsAreSound", desc := "(I)Z" } : Jvm.MethodName) ∈ gw := gw_of (mt_4 _ (List.mem_of_getElem? (i := 76) rfl)) rfl
theorem gw_797 : Jvm.Cond.code ({ cls := "CoinKeeper$Layout", name := "amountsAreSound", desc := "(I)Z" } : Jvm.MethodName) prog_5_method_10_code (7 : Nat) (Option.some Jvm.ClassFile.FieldType.boolean) ∈ gw := gw_of (mt_4 _ (List.mem_of_getElem? (i := 77) rfl)) rfl
theorem gw_798 : Jvm.Cond.methodLink "CoinKeeper$Layout" (119 : Nat) ({ cls := "CoinKeeper$Layout", name := "value", desc := "(I)J" } : Jvm.MethodName) ∈ gw := gw_of (mt_4 _ (List.mem_of_getElem? (i := 78) rfl)) rfl
theorem gw_799 : Jvm.Cond.instanceMethod ({ cls := "CoinKeeper$Layout", name := "value", desc := "(I)J" } : Jvm.MethodName) ∈ gw := gw_of (mt_4 _ (List.mem_of_getElem? (i := 79) rfl)) rfl
theorem gw_800 : Jvm.Cond.selects "CoinKeeper$Layout" ({ cls := "CoinKeeper$Layout", name := "value", desc := "(I)J" } : Jvm.MethodName) ({ cls := "CoinKeeper$Layout", name := "value", desc := "(I)J" } : Jvm.MethodName) ∈ gw := gw_of (mt_4 _ (List.mem_of_getElem? (i := 80) rfl)) rfl
theorem gw_801 : Jvm.Cond.code ({ cls := "CoinKeeper$Layout", name := "value", desc := "(I)J" } : Jvm.MethodName) prog_5_method_17_code (2 : Nat) (Option.some Jvm.ClassFile.FieldType.long) ∈ gw := gw_of (mt_4 _ (List.mem_of_getElem? (i := 81) rfl)) rfl
theorem mw_802 : Jvm.Cond.methodLinkNest "CoinKeeper$Layout" (128 : Nat) ({ cls := "CoinKeeper", name := "word", desc := "([BI)I" } : Jvm.MethodName) "CoinKeeper" ∈ lw_tbl := mt_4 _ (List.mem_of_getElem? (i := 82) rfl)
theorem gw_803 : Jvm.Cond.constantLong "CoinKeeper$Layout" (132 : Nat) (4294967295 : Int64) ∈ gw := gw_of (mt_4 _ (List.mem_of_getElem? (i := 83) rfl)) rfl
theorem gw_804 : Jvm.Cond.constantLong "CoinKeeper$Layout" (123 : Nat) (2100000000000000 : Int64) ∈ gw := gw_of (mt_4 _ (List.mem_of_getElem? (i := 84) rfl)) rfl
theorem gw_805 : Jvm.Cond.methodLink "CoinKeeper$Layout" (106 : Nat) ({ cls := "CoinKeeper$Layout", name := "inputsAreSound", desc := "(I)Z" } : Jvm.MethodName) ∈ gw := gw_of (mt_4 _ (List.mem_of_getElem? (i := 85) rfl)) rfl
theorem mw_806 : Jvm.Cond.privateMethod ({ cls := "CoinKeeper$Layout", name := "inputsAreSound", desc := "(I)Z" } : Jvm.MethodName) ∈ lw_tbl := mt_4 _ (List.mem_of_getElem? (i := 86) rfl)
theorem gw_807 : Jvm.Cond.instanceMethod ({ cls := "CoinKeeper$Layout", name := "inputsAreSound", desc := "(I)Z" } : Jvm.MethodName) ∈ gw := gw_of (mt_4 _ (List.mem_of_getElem? (i := 87) rfl)) rfl
theorem gw_808 : Jvm.Cond.code ({ cls := "CoinKeeper$Layout", name := "inputsAreSound", desc := "(I)Z" } : Jvm.MethodName) prog_5_method_11_code (4 : Nat) (Option.some Jvm.ClassFile.FieldType.boolean) ∈ gw := gw_of (mt_4 _ (List.mem_of_getElem? (i := 88) rfl)) rfl
theorem gw_809 : Jvm.Cond.methodLink "CoinKeeper$Layout" (125 : Nat) ({ cls := "CoinKeeper$Layout", name := "isOfCoinbase", desc := "(I)Z" } : Jvm.MethodName) ∈ gw := gw_of (mt_4 _ (List.mem_of_getElem? (i := 89) rfl)) rfl
theorem mw_810 : Jvm.Cond.privateMethod ({ cls := "CoinKeeper$Layout", name := "isOfCoinbase", desc := "(I)Z" } : Jvm.MethodName) ∈ lw_tbl := mt_4 _ (List.mem_of_getElem? (i := 90) rfl)
theorem gw_811 : Jvm.Cond.instanceMethod ({ cls := "CoinKeeper$Layout", name := "isOfCoinbase", desc := "(I)Z" } : Jvm.MethodName) ∈ gw := gw_of (mt_4 _ (List.mem_of_getElem? (i := 91) rfl)) rfl
theorem gw_812 : Jvm.Cond.code ({ cls := "CoinKeeper$Layout", name := "isOfCoinbase", desc := "(I)Z" } : Jvm.MethodName) prog_5_method_12_code (3 : Nat) (Option.some Jvm.ClassFile.FieldType.boolean) ∈ gw := gw_of (mt_4 _ (List.mem_of_getElem? (i := 92) rfl)) rfl
theorem gw_813 : Jvm.Cond.methodLink "CoinKeeper$Layout" (109 : Nat) ({ cls := "CoinKeeper$Layout", name := "isFinal", desc := "(IIJ)Z" } : Jvm.MethodName) ∈ gw := gw_of (mt_4 _ (List.mem_of_getElem? (i := 93) rfl)) rfl
theorem mw_814 : Jvm.Cond.privateMethod ({ cls := "CoinKeeper$Layout", name := "isFinal", desc := "(IIJ)Z" } : Jvm.MethodName) ∈ lw_tbl := mt_4 _ (List.mem_of_getElem? (i := 94) rfl)
theorem gw_815 : Jvm.Cond.instanceMethod ({ cls := "CoinKeeper$Layout", name := "isFinal", desc := "(IIJ)Z" } : Jvm.MethodName) ∈ gw := gw_of (mt_4 _ (List.mem_of_getElem? (i := 95) rfl)) rfl
theorem gw_816 : Jvm.Cond.code ({ cls := "CoinKeeper$Layout", name := "isFinal", desc := "(IIJ)Z" } : Jvm.MethodName) prog_5_method_14_code (8 : Nat) (Option.some Jvm.ClassFile.FieldType.boolean) ∈ gw := gw_of (mt_4 _ (List.mem_of_getElem? (i := 96) rfl)) rfl
theorem gw_817 : Jvm.Cond.constantLong "CoinKeeper$Layout" (134 : Nat) (500000000 : Int64) ∈ gw := gw_of (mt_4 _ (List.mem_of_getElem? (i := 97) rfl)) rfl
theorem gw_818 : Jvm.Cond.methodLink "CoinKeeper$Layout" (113 : Nat) ({ cls := "CoinKeeper$Layout", name := "beginsWith", desc := "(I)Z" } : Jvm.MethodName) ∈ gw := gw_of (mt_4 _ (List.mem_of_getElem? (i := 98) rfl)) rfl
theorem mw_819 : Jvm.Cond.privateMethod ({ cls := "CoinKeeper$Layout", name := "beginsWith", desc := "(I)Z" } : Jvm.MethodName) ∈ lw_tbl := mt_4 _ (List.mem_of_getElem? (i := 99) rfl)
theorem gw_820 : Jvm.Cond.instanceMethod ({ cls := "CoinKeeper$Layout", name := "beginsWith", desc := "(I)Z" } : Jvm.MethodName) ∈ gw := gw_of (mt_4 _ (List.mem_of_getElem? (i := 100) rfl)) rfl
theorem gw_821 : Jvm.Cond.code ({ cls := "CoinKeeper$Layout", name := "beginsWith", desc := "(I)Z" } : Jvm.MethodName) prog_5_method_13_code (5 : Nat) (Option.some Jvm.ClassFile.FieldType.boolean) ∈ gw := gw_of (mt_4 _ (List.mem_of_getElem? (i := 101) rfl)) rfl
theorem gw_822 : Jvm.Cond.methodLink "CoinKeeper$Layout" (116 : Nat) ({ cls := "CoinKeeper$Layout", name := "scriptsAreSound", desc := "()Z" } : Jvm.MethodName) ∈ gw := gw_of (mt_4 _ (List.mem_of_getElem? (i := 102) rfl)) rfl
theorem mw_823 : Jvm.Cond.privateMethod ({ cls := "CoinKeeper$Layout", name := "scriptsAreSound", desc := "()Z" } : Jvm.MethodName) ∈ lw_tbl := mt_4 _ (List.mem_of_getElem? (i := 103) rfl)
theorem gw_824 : Jvm.Cond.instanceMethod ({ cls := "CoinKeeper$Layout", name := "scriptsAreSound", desc := "()Z" } : Jvm.MethodName) ∈ gw := gw_of (mt_4 _ (List.mem_of_getElem? (i := 104) rfl)) rfl
theorem gw_825 : Jvm.Cond.code ({ cls := "CoinKeeper$Layout", name := "scriptsAreSound", desc := "()Z" } : Jvm.MethodName) prog_5_method_15_code (3 : Nat) (Option.some Jvm.ClassFile.FieldType.boolean) ∈ gw := gw_of (mt_4 _ (List.mem_of_getElem? (i := 105) rfl)) rfl
theorem gw_826 : Jvm.Cond.methodLink "CoinKeeper$Layout" (136 : Nat) ({ cls := "CoinKeeper$Layout", name := "sigsOf", desc := "(II)I" } : Jvm.MethodName) ∈ gw := gw_of (mt_4 _ (List.mem_of_getElem? (i := 106) rfl)) rfl
theorem mw_827 : Jvm.Cond.privateMethod ({ cls := "CoinKeeper$Layout", name := "sigsOf", desc := "(II)I" } : Jvm.MethodName) ∈ lw_tbl := mt_4 _ (List.mem_of_getElem? (i := 107) rfl)
theorem gw_828 : Jvm.Cond.instanceMethod ({ cls := "CoinKeeper$Layout", name := "sigsOf", desc := "(II)I" } : Jvm.MethodName) ∈ gw := gw_of (mt_4 _ (List.mem_of_getElem? (i := 108) rfl)) rfl
theorem gw_829 : Jvm.Cond.code ({ cls := "CoinKeeper$Layout", name := "sigsOf", desc := "(II)I" } : Jvm.MethodName) prog_5_method_16_code (6 : Nat) (Option.some Jvm.ClassFile.FieldType.int) ∈ gw := gw_of (mt_4 _ (List.mem_of_getElem? (i := 109) rfl)) rfl
theorem gw_830 : Jvm.Cond.methodLink "CoinKeeper" (105 : Nat) ({ cls := "CoinKeeper", name := "take", desc := "(I)LCoinKeeper$Block;" } : Jvm.MethodName) ∈ gw := gw_of (mt_4 _ (List.mem_of_getElem? (i := 110) rfl)) rfl
theorem mw_831 : Jvm.Cond.privateMethod ({ cls := "CoinKeeper", name := "take", desc := "(I)LCoinKeeper$Block;" } : Jvm.MethodName) ∈ lw_tbl := mt_4 _ (List.mem_of_getElem? (i := 111) rfl)
theorem gw_832 : Jvm.Cond.instanceMethod ({ cls := "CoinKeeper", name := "take", desc := "(I)LCoinKeeper$Block;" } : Jvm.MethodName) ∈ gw := gw_of (mt_4 _ (List.mem_of_getElem? (i := 112) rfl)) rfl
theorem gw_833 : Jvm.Cond.code ({ cls := "CoinKeeper", name := "take", desc := "(I)LCoinKeeper$Block;" } : Jvm.MethodName) prog_1_method_15_code (6 : Nat) (Option.some (Jvm.ClassFile.FieldType.object "CoinKeeper$Block")) ∈ gw := gw_of (mt_4 _ (List.mem_of_getElem? (i := 113) rfl)) rfl
theorem gw_834 : Jvm.Cond.methodLink "CoinKeeper" (240 : Nat) ({ cls := "java/lang/System", name := "arraycopy", desc := "(Ljava/lang/Object;ILjava/lang/Object;II)V" } : Jvm.MethodName) ∈ gw := gw_of (mt_4 _ (List.mem_of_getElem? (i := 114) rfl)) rfl
theorem gw_835 : Jvm.Cond.methodLink "CoinKeeper" (246 : Nat) ({ cls := "[B", name := "clone", desc := "()Ljava/lang/Object;" } : Jvm.MethodName) ∈ gw := gw_of (mt_4 _ (List.mem_of_getElem? (i := 115) rfl)) rfl
theorem gw_836 : Jvm.Cond.sameMethod "[B" "java/lang/Object" "clone" "()Ljava/lang/Object;" ∈ gw := gw_of (mt_4 _ (List.mem_of_getElem? (i := 116) rfl)) rfl
theorem gw_837 : Jvm.Cond.native ({ cls := "java/lang/Object", name := "clone", desc := "()Ljava/lang/Object;" } : Jvm.MethodName) ∈ gw := gw_of (mt_4 _ (List.mem_of_getElem? (i := 117) rfl)) rfl
theorem gw_838 : Jvm.Cond.instanceMethod ({ cls := "java/lang/Object", name := "clone", desc := "()Ljava/lang/Object;" } : Jvm.MethodName) ∈ gw := gw_of (mt_4 _ (List.mem_of_getElem? (i := 118) rfl)) rfl
theorem gw_839 : Jvm.Cond.selects "[B" ({ cls := "[B", name := "clone", desc := "()Ljava/lang/Object;" } : Jvm.MethodName) ({ cls := "java/lang/Object", name := "clone", desc := "()Ljava/lang/Object;" } : Jvm.MethodName) ∈ gw := gw_of (mt_4 _ (List.mem_of_getElem? (i := 119) rfl)) rfl
theorem mw_840 : Jvm.Cond.castable "[B" "java/lang/Cloneable" ∈ lw_tbl := mt_4 _ (List.mem_of_getElem? (i := 120) rfl)
theorem gw_841 : Jvm.Cond.classLink "CoinKeeper" (247 : Nat) "[B" ∈ gw := gw_of (mt_4 _ (List.mem_of_getElem? (i := 121) rfl)) rfl
theorem gw_842 : Jvm.Cond.methodLink "CoinKeeper" (251 : Nat) ({ cls := "CoinKeeper$Layout", name := "ids", desc := "(LCoinKeeper$Sha256;)[B" } : Jvm.MethodName) ∈ gw := gw_of (mt_4 _ (List.mem_of_getElem? (i := 122) rfl)) rfl
theorem gw_843 : Jvm.Cond.instantiable "CoinKeeper$Coin" (10 : Nat) ∈ gw := gw_of (mt_4 _ (List.mem_of_getElem? (i := 123) rfl)) rfl
theorem gw_844 : Jvm.Cond.methodLink "CoinKeeper" (265 : Nat) ({ cls := "CoinKeeper$Coin", name := "<init>", desc := "(LCoinKeeper$Block;IILCoinKeeper$Layout;)V" } : Jvm.MethodName) ∈ gw := gw_of (mt_4 _ (List.mem_of_getElem? (i := 124) rfl)) rfl
theorem gw_845 : Jvm.Cond.instanceMethod ({ cls := "CoinKeeper$Coin", name := "<init>", desc := "(LCoinKeeper$Block;IILCoinKeeper$Layout;)V" } : Jvm.MethodName) ∈ gw := gw_of (mt_4 _ (List.mem_of_getElem? (i := 125) rfl)) rfl
theorem gw_846 : Jvm.Cond.code ({ cls := "CoinKeeper$Coin", name := "<init>", desc := "(LCoinKeeper$Block;IILCoinKeeper$Layout;)V" } : Jvm.MethodName) prog_3_method_1_code (5 : Nat) (Option.none : Option Jvm.ClassFile.FieldType) ∈ gw := gw_of (mt_4 _ (List.mem_of_getElem? (i := 126) rfl)) rfl
theorem gw_847 : Jvm.Cond.methodLink "CoinKeeper$Coin" (1 : Nat) ({ cls := "java/lang/Object", name := "<init>", desc := "()V" } : Jvm.MethodName) ∈ gw := gw_of (mt_4 _ (List.mem_of_getElem? (i := 127) rfl)) rfl
theorem mw_848 : Jvm.Cond.methodLinkNest "CoinKeeper$Coin" (26 : Nat) ({ cls := "CoinKeeper", name := "word", desc := "([BI)I" } : Jvm.MethodName) "CoinKeeper" ∈ lw_tbl := mt_4 _ (List.mem_of_getElem? (i := 128) rfl)
theorem gw_849 : Jvm.Cond.methodLink "CoinKeeper$Coin" (44 : Nat) ({ cls := "CoinKeeper$Layout", name := "value", desc := "(I)J" } : Jvm.MethodName) ∈ gw := gw_of (mt_4 _ (List.mem_of_getElem? (i := 129) rfl)) rfl
theorem gw_850 : Jvm.Cond.fieldLink "CoinKeeper$Coin" (13 : Nat) "CoinKeeper$Coin" "block" "LCoinKeeper$Block;" ∈ gw := gw_of (mt_4 _ (List.mem_of_getElem? (i := 130) rfl)) rfl
theorem gw_851 : Jvm.Cond.fieldLink "CoinKeeper$Ledger" (42 : Nat) "CoinKeeper$Coin" "block" "LCoinKeeper$Block;" ∈ gw := gw_of (mt_4 _ (List.mem_of_getElem? (i := 131) rfl)) rfl
theorem gw_852 : Jvm.Cond.fieldLink "CoinKeeper" (303 : Nat) "CoinKeeper$Coin" "block" "LCoinKeeper$Block;" ∈ gw := gw_of (mt_4 _ (List.mem_of_getElem? (i := 132) rfl)) rfl
theorem gw_853 : Jvm.Cond.fieldLink "CoinKeeper$Machine" (235 : Nat) "CoinKeeper$Coin" "block" "LCoinKeeper$Block;" ∈ gw := gw_of (mt_4 _ (List.mem_of_getElem? (i := 133) rfl)) rfl
theorem gw_854 : Jvm.Cond.fieldLink "CoinKeeper$Coin" (17 : Nat) "CoinKeeper$Coin" "idAt" "I" ∈ gw := gw_of (mt_4 _ (List.mem_of_getElem? (i := 134) rfl)) rfl
theorem gw_855 : Jvm.Cond.fieldLink "CoinKeeper$Ledger" (52 : Nat) "CoinKeeper$Coin" "idAt" "I" ∈ gw := gw_of (mt_4 _ (List.mem_of_getElem? (i := 135) rfl)) rfl
theorem gw_856 : Jvm.Cond.fieldLink "CoinKeeper$Coin" (32 : Nat) "CoinKeeper$Coin" "idWord" "I" ∈ gw := gw_of (mt_4 _ (List.mem_of_getElem? (i := 136) rfl)) rfl
theorem gw_857 : Jvm.Cond.fieldLink "CoinKeeper$Ledger" (35 : Nat) "CoinKeeper$Coin" "idWord" "I" ∈ gw := gw_of (mt_4 _ (List.mem_of_getElem? (i := 137) rfl)) rfl
theorem gw_858 : Jvm.Cond.fieldLink "CoinKeeper$Coin" (41 : Nat) "CoinKeeper$Coin" "index" "I" ∈ gw := gw_of (mt_4 _ (List.mem_of_getElem? (i := 138) rfl)) rfl
theorem gw_859 : Jvm.Cond.fieldLink "CoinKeeper$Ledger" (39 : Nat) "CoinKeeper$Coin" "index" "I" ∈ gw := gw_of (mt_4 _ (List.mem_of_getElem? (i := 139) rfl)) rfl
theorem gw_860 : Jvm.Cond.fieldLink "CoinKeeper$Coin" (48 : Nat) "CoinKeeper$Coin" "value" "J" ∈ gw := gw_of (mt_4 _ (List.mem_of_getElem? (i := 140) rfl)) rfl
theorem gw_861 : Jvm.Cond.fieldLink "CoinKeeper" (187 : Nat) "CoinKeeper$Coin" "value" "J" ∈ gw := gw_of (mt_4 _ (List.mem_of_getElem? (i := 141) rfl)) rfl
theorem gw_862 : Jvm.Cond.fieldLink "CoinKeeper$Ledger" (84 : Nat) "CoinKeeper$Coin" "value" "J" ∈ gw := gw_of (mt_4 _ (List.mem_of_getElem? (i := 142) rfl)) rfl
theorem gw_863 : Jvm.Cond.fieldLink "CoinKeeper$Coin" (51 : Nat) "CoinKeeper$Coin" "ofCoinbase" "Z" ∈ gw := gw_of (mt_4 _ (List.mem_of_getElem? (i := 143) rfl)) rfl
theorem gw_864 : Jvm.Cond.fieldLink "CoinKeeper" (300 : Nat) "CoinKeeper$Coin" "ofCoinbase" "Z" ∈ gw := gw_of (mt_4 _ (List.mem_of_getElem? (i := 144) rfl)) rfl
theorem gw_865 : Jvm.Cond.fieldLink "CoinKeeper$Coin" (58 : Nat) "CoinKeeper$Coin" "countAt" "I" ∈ gw := gw_of (mt_4 _ (List.mem_of_getElem? (i := 145) rfl)) rfl
theorem gw_866 : Jvm.Cond.fieldLink "CoinKeeper$Machine" (244 : Nat) "CoinKeeper$Coin" "countAt" "I" ∈ gw := gw_of (mt_4 _ (List.mem_of_getElem? (i := 146) rfl)) rfl
theorem gw_867 : Jvm.Cond.fieldLink "CoinKeeper$Coin" (64 : Nat) "CoinKeeper$Coin" "scriptAt" "I" ∈ gw := gw_of (mt_4 _ (List.mem_of_getElem? (i := 147) rfl)) rfl
theorem gw_868 : Jvm.Cond.fieldLink "CoinKeeper" (320 : Nat) "CoinKeeper$Coin" "scriptAt" "I" ∈ gw := gw_of (mt_4 _ (List.mem_of_getElem? (i := 148) rfl)) rfl
theorem gw_869 : Jvm.Cond.fieldLink "CoinKeeper$Coin" (70 : Nat) "CoinKeeper$Coin" "scriptEnd" "I" ∈ gw := gw_of (mt_4 _ (List.mem_of_getElem? (i := 149) rfl)) rfl
theorem gw_870 : Jvm.Cond.fieldLink "CoinKeeper" (323 : Nat) "CoinKeeper$Coin" "scriptEnd" "I" ∈ gw := gw_of (mt_4 _ (List.mem_of_getElem? (i := 150) rfl)) rfl
theorem gw_871 : Jvm.Cond.fieldLink "CoinKeeper$Machine" (247 : Nat) "CoinKeeper$Coin" "scriptEnd" "I" ∈ gw := gw_of (mt_4 _ (List.mem_of_getElem? (i := 151) rfl)) rfl
theorem gw_872 : Jvm.Cond.fieldLink "CoinKeeper$Coin" (7 : Nat) "CoinKeeper$Coin" "slot" "I" ∈ gw := gw_of (mt_4 _ (List.mem_of_getElem? (i := 152) rfl)) rfl
theorem gw_873 : Jvm.Cond.fieldLink "CoinKeeper$Ledger" (77 : Nat) "CoinKeeper$Coin" "slot" "I" ∈ gw := gw_of (mt_4 _ (List.mem_of_getElem? (i := 153) rfl)) rfl
theorem gw_874 : Jvm.Cond.laysFinal "CoinKeeper$Coin" "CoinKeeper$Coin" "block" "LCoinKeeper$Block;" ∈ gw := gw_of (mt_4 _ (List.mem_of_getElem? (i := 154) rfl)) rfl
theorem gw_875 : Jvm.Cond.soleField "CoinKeeper$Coin" "block" ∈ gw := gw_of (mt_4 _ (List.mem_of_getElem? (i := 155) rfl)) rfl
theorem gw_876 : Jvm.Cond.laysFinal "CoinKeeper$Coin" "CoinKeeper$Coin" "idAt" "I" ∈ gw := gw_of (mt_4 _ (List.mem_of_getElem? (i := 156) rfl)) rfl
theorem gw_877 : Jvm.Cond.soleField "CoinKeeper$Coin" "idAt" ∈ gw := gw_of (mt_4 _ (List.mem_of_getElem? (i := 157) rfl)) rfl
theorem gw_878 : Jvm.Cond.laysFinal "CoinKeeper$Coin" "CoinKeeper$Coin" "idWord" "I" ∈ gw := gw_of (mt_4 _ (List.mem_of_getElem? (i := 158) rfl)) rfl
theorem gw_879 : Jvm.Cond.soleField "CoinKeeper$Coin" "idWord" ∈ gw := gw_of (mt_4 _ (List.mem_of_getElem? (i := 159) rfl)) rfl
theorem gw_880 : Jvm.Cond.laysFinal "CoinKeeper$Coin" "CoinKeeper$Coin" "index" "I" ∈ gw := gw_of (mt_4 _ (List.mem_of_getElem? (i := 160) rfl)) rfl
theorem gw_881 : Jvm.Cond.soleField "CoinKeeper$Coin" "index" ∈ gw := gw_of (mt_4 _ (List.mem_of_getElem? (i := 161) rfl)) rfl
theorem gw_882 : Jvm.Cond.laysFinal "CoinKeeper$Coin" "CoinKeeper$Coin" "value" "J" ∈ gw := gw_of (mt_4 _ (List.mem_of_getElem? (i := 162) rfl)) rfl
theorem gw_883 : Jvm.Cond.soleField "CoinKeeper$Coin" "value" ∈ gw := gw_of (mt_4 _ (List.mem_of_getElem? (i := 163) rfl)) rfl
theorem gw_884 : Jvm.Cond.laysFinal "CoinKeeper$Coin" "CoinKeeper$Coin" "ofCoinbase" "Z" ∈ gw := gw_of (mt_4 _ (List.mem_of_getElem? (i := 164) rfl)) rfl
theorem gw_885 : Jvm.Cond.soleField "CoinKeeper$Coin" "ofCoinbase" ∈ gw := gw_of (mt_4 _ (List.mem_of_getElem? (i := 165) rfl)) rfl
theorem gw_886 : Jvm.Cond.laysFinal "CoinKeeper$Coin" "CoinKeeper$Coin" "countAt" "I" ∈ gw := gw_of (mt_4 _ (List.mem_of_getElem? (i := 166) rfl)) rfl
theorem gw_887 : Jvm.Cond.soleField "CoinKeeper$Coin" "countAt" ∈ gw := gw_of (mt_4 _ (List.mem_of_getElem? (i := 167) rfl)) rfl
theorem gw_888 : Jvm.Cond.laysFinal "CoinKeeper$Coin" "CoinKeeper$Coin" "scriptAt" "I" ∈ gw := gw_of (mt_4 _ (List.mem_of_getElem? (i := 168) rfl)) rfl
theorem gw_889 : Jvm.Cond.soleField "CoinKeeper$Coin" "scriptAt" ∈ gw := gw_of (mt_4 _ (List.mem_of_getElem? (i := 169) rfl)) rfl
theorem gw_890 : Jvm.Cond.laysFinal "CoinKeeper$Coin" "CoinKeeper$Coin" "scriptEnd" "I" ∈ gw := gw_of (mt_4 _ (List.mem_of_getElem? (i := 170) rfl)) rfl
theorem gw_891 : Jvm.Cond.soleField "CoinKeeper$Coin" "scriptEnd" ∈ gw := gw_of (mt_4 _ (List.mem_of_getElem? (i := 171) rfl)) rfl
theorem gw_892 : Jvm.Cond.lays "CoinKeeper$Coin" "CoinKeeper$Coin" "slot" "I" ∈ gw := gw_of (mt_4 _ (List.mem_of_getElem? (i := 172) rfl)) rfl
theorem gw_893 : Jvm.Cond.soleField "CoinKeeper$Coin" "slot" ∈ gw := gw_of (mt_4 _ (List.mem_of_getElem? (i := 173) rfl)) rfl
theorem gw_894 : Jvm.Cond.superclass "CoinKeeper$Coin" "java/lang/Object" ∈ gw := gw_of (mt_4 _ (List.mem_of_getElem? (i := 174) rfl)) rfl
theorem gw_895 : Jvm.Cond.methodLink "CoinKeeper" (113 : Nat) ({ cls := "CoinKeeper$Block", name := "meets", desc := "(LCoinKeeper$Block;)LCoinKeeper$Block;" } : Jvm.MethodName) ∈ gw := gw_of (mt_4 _ (List.mem_of_getElem? (i := 175) rfl)) rfl
theorem gw_896 : Jvm.Cond.instanceMethod ({ cls := "CoinKeeper$Block", name := "meets", desc := "(LCoinKeeper$Block;)LCoinKeeper$Block;" } : Jvm.MethodName) ∈ gw := gw_of (mt_4 _ (List.mem_of_getElem? (i := 176) rfl)) rfl
theorem gw_897 : Jvm.Cond.selects "CoinKeeper$Block" ({ cls := "CoinKeeper$Block", name := "meets", desc := "(LCoinKeeper$Block;)LCoinKeeper$Block;" } : Jvm.MethodName) ({ cls := "CoinKeeper$Block", name := "meets", desc := "(LCoinKeeper$Block;)LCoinKeeper$Block;" } : Jvm.MethodName) ∈ gw := gw_of (mt_4 _ (List.mem_of_getElem? (i := 177) rfl)) rfl
theorem gw_898 : Jvm.Cond.code ({ cls := "CoinKeeper$Block", name := "meets", desc := "(LCoinKeeper$Block;)LCoinKeeper$Block;" } : Jvm.MethodName) prog_2_method_3_code (5 : Nat) (Option.some (Jvm.ClassFile.FieldType.object "CoinKeeper$Block")) ∈ gw := gw_of (mt_4 _ (List.mem_of_getElem? (i := 178) rfl)) rfl
theorem gw_899 : Jvm.Cond.methodLink "CoinKeeper$Block" (52 : Nat) ({ cls := "java/lang/Math", name := "min", desc := "(II)I" } : Jvm.MethodName) ∈ gw := gw_of (mt_4 _ (List.mem_of_getElem? (i := 179) rfl)) rfl
theorem gw_900 : Jvm.Cond.methodLink "CoinKeeper" (120 : Nat) ({ cls := "CoinKeeper$Ledger", name := "rollBack", desc := "(I)V" } : Jvm.MethodName) ∈ gw := gw_of (mt_4 _ (List.mem_of_getElem? (i := 180) rfl)) rfl
theorem gw_901 : Jvm.Cond.instanceMethod ({ cls := "CoinKeeper$Ledger", name := "rollBack", desc := "(I)V" } : Jvm.MethodName) ∈ gw := gw_of (mt_4 _ (List.mem_of_getElem? (i := 181) rfl)) rfl
theorem gw_902 : Jvm.Cond.selects "CoinKeeper$Ledger" ({ cls := "CoinKeeper$Ledger", name := "rollBack", desc := "(I)V" } : Jvm.MethodName) ({ cls := "CoinKeeper$Ledger", name := "rollBack", desc := "(I)V" } : Jvm.MethodName) ∈ gw := gw_of (mt_4 _ (List.mem_of_getElem? (i := 182) rfl)) rfl
theorem gw_903 : Jvm.Cond.code ({ cls := "CoinKeeper$Ledger", name := "rollBack", desc := "(I)V" } : Jvm.MethodName) prog_6_method_6_code (3 : Nat) (Option.none : Option Jvm.ClassFile.FieldType) ∈ gw := gw_of (mt_4 _ (List.mem_of_getElem? (i := 183) rfl)) rfl
theorem gw_904 : Jvm.Cond.methodLink "CoinKeeper$Ledger" (74 : Nat) ({ cls := "java/util/ArrayList", name := "remove", desc := "(I)Ljava/lang/Object;" } : Jvm.MethodName) ∈ gw := gw_of (mt_4 _ (List.mem_of_getElem? (i := 184) rfl)) rfl
theorem gw_905 : Jvm.Cond.instanceMethod ({ cls := "java/util/ArrayList", name := "remove", desc := "(I)Ljava/lang/Object;" } : Jvm.MethodName) ∈ gw := gw_of (mt_4 _ (List.mem_of_getElem? (i := 185) rfl)) rfl
theorem gw_906 : Jvm.Cond.selects "java/util/ArrayList" ({ cls := "java/util/ArrayList", name := "remove", desc := "(I)Ljava/lang/Object;" } : Jvm.MethodName) ({ cls := "java/util/ArrayList", name := "remove", desc := "(I)Ljava/lang/Object;" } : Jvm.MethodName) ∈ gw := gw_of (mt_4 _ (List.mem_of_getElem? (i := 186) rfl)) rfl
theorem gw_907 : Jvm.Cond.code ({ cls := "java/util/ArrayList", name := "remove", desc := "(I)Ljava/lang/Object;" } : Jvm.MethodName) prog_28_method_29_code (4 : Nat) (Option.some (Jvm.ClassFile.FieldType.object "java/lang/Object")) ∈ gw := gw_of (mt_4 _ (List.mem_of_getElem? (i := 187) rfl)) rfl
theorem gw_908 : Jvm.Cond.methodLink "java/util/ArrayList" (144 : Nat) ({ cls := "java/util/ArrayList", name := "fastRemove", desc := "([Ljava/lang/Object;I)V" } : Jvm.MethodName) ∈ gw := gw_of (mt_4 _ (List.mem_of_getElem? (i := 188) rfl)) rfl
theorem mw_909 : Jvm.Cond.privateMethod ({ cls := "java/util/ArrayList", name := "fastRemove", desc := "([Ljava/lang/Object;I)V" } : Jvm.MethodName) ∈ lw_tbl := mt_4 _ (List.mem_of_getElem? (i := 189) rfl)
theorem gw_910 : Jvm.Cond.instanceMethod ({ cls := "java/util/ArrayList", name := "fastRemove", desc := "([Ljava/lang/Object;I)V" } : Jvm.MethodName) ∈ gw := gw_of (mt_4 _ (List.mem_of_getElem? (i := 190) rfl)) rfl
theorem gw_911 : Jvm.Cond.code ({ cls := "java/util/ArrayList", name := "fastRemove", desc := "([Ljava/lang/Object;I)V" } : Jvm.MethodName) prog_28_method_39_code (4 : Nat) (Option.none : Option Jvm.ClassFile.FieldType) ∈ gw := gw_of (mt_4 _ (List.mem_of_getElem? (i := 191) rfl)) rfl
theorem gw_912 : Jvm.Cond.methodLink "java/util/ArrayList" (112 : Nat) ({ cls := "java/lang/System", name := "arraycopy", desc := "(Ljava/lang/Object;ILjava/lang/Object;II)V" } : Jvm.MethodName) ∈ gw := gw_of (mt_4 _ (List.mem_of_getElem? (i := 192) rfl)) rfl
theorem gw_913 : Jvm.Cond.methodLink "CoinKeeper$Ledger" (71 : Nat) ({ cls := "CoinKeeper$Ledger", name := "change", desc := "(LCoinKeeper$Coin;)V" } : Jvm.MethodName) ∈ gw := gw_of (mt_4 _ (List.mem_of_getElem? (i := 193) rfl)) rfl
theorem mw_914 : Jvm.Cond.privateMethod ({ cls := "CoinKeeper$Ledger", name := "change", desc := "(LCoinKeeper$Coin;)V" } : Jvm.MethodName) ∈ lw_tbl := mt_4 _ (List.mem_of_getElem? (i := 194) rfl)
theorem gw_915 : Jvm.Cond.instanceMethod ({ cls := "CoinKeeper$Ledger", name := "change", desc := "(LCoinKeeper$Coin;)V" } : Jvm.MethodName) ∈ gw := gw_of (mt_4 _ (List.mem_of_getElem? (i := 195) rfl)) rfl
theorem gw_916 : Jvm.Cond.code ({ cls := "CoinKeeper$Ledger", name := "change", desc := "(LCoinKeeper$Coin;)V" } : Jvm.MethodName) prog_6_method_7_code (3 : Nat) (Option.none : Option Jvm.ClassFile.FieldType) ∈ gw := gw_of (mt_4 _ (List.mem_of_getElem? (i := 196) rfl)) rfl
theorem gw_917 : Jvm.Cond.methodLink "CoinKeeper$Ledger" (67 : Nat) ({ cls := "java/util/ArrayList", name := "add", desc := "(Ljava/lang/Object;)Z" } : Jvm.MethodName) ∈ gw := gw_of (mt_4 _ (List.mem_of_getElem? (i := 197) rfl)) rfl
theorem gw_918 : Jvm.Cond.methodLink "CoinKeeper$Ledger" (80 : Nat) ({ cls := "java/util/ArrayList", name := "set", desc := "(ILjava/lang/Object;)Ljava/lang/Object;" } : Jvm.MethodName) ∈ gw := gw_of (mt_4 _ (List.mem_of_getElem? (i := 198) rfl)) rfl
theorem gw_919 : Jvm.Cond.instanceMethod ({ cls := "java/util/ArrayList", name := "set", desc := "(ILjava/lang/Object;)Ljava/lang/Object;" } : Jvm.MethodName) ∈ gw := gw_of (mt_4 _ (List.mem_of_getElem? (i := 199) rfl)) rfl
theorem gw_920 : Jvm.Cond.selects "java/util/ArrayList" ({ cls := "java/util/ArrayList", name := "set", desc := "(ILjava/lang/Object;)Ljava/lang/Object;" } : Jvm.MethodName) ({ cls := "java/util/ArrayList", name := "set", desc := "(ILjava/lang/Object;)Ljava/lang/Object;" } : Jvm.MethodName) ∈ gw := gw_of (mt_4 _ (List.mem_of_getElem? (i := 200) rfl)) rfl
theorem gw_921 : Jvm.Cond.code ({ cls := "java/util/ArrayList", name := "set", desc := "(ILjava/lang/Object;)Ljava/lang/Object;" } : Jvm.MethodName) prog_28_method_23_code (4 : Nat) (Option.some (Jvm.ClassFile.FieldType.object "java/lang/Object")) ∈ gw := gw_of (mt_4 _ (List.mem_of_getElem? (i := 201) rfl)) rfl
theorem gw_922 : Jvm.Cond.methodLink "CoinKeeper" (126 : Nat) ({ cls := "CoinKeeper$Block", name := "ancestor", desc := "(I)LCoinKeeper$Block;" } : Jvm.MethodName) ∈ gw := gw_of (mt_4 _ (List.mem_of_getElem? (i := 202) rfl)) rfl
theorem gw_923 : Jvm.Cond.methodLink "CoinKeeper" (129 : Nat) ({ cls := "CoinKeeper", name := "connect", desc := "(LCoinKeeper$Block;)I" } : Jvm.MethodName) ∈ gw := gw_of (mt_4 _ (List.mem_of_getElem? (i := 203) rfl)) rfl
theorem mw_924 : Jvm.Cond.privateMethod ({ cls := "CoinKeeper", name := "connect", desc := "(LCoinKeeper$Block;)I" } : Jvm.MethodName) ∈ lw_tbl := mt_4 _ (List.mem_of_getElem? (i := 204) rfl)
theorem gw_925 : Jvm.Cond.instanceMethod ({ cls := "CoinKeeper", name := "connect", desc := "(LCoinKeeper$Block;)I" } : Jvm.MethodName) ∈ gw := gw_of (mt_4 _ (List.mem_of_getElem? (i := 205) rfl)) rfl
theorem gw_926 : Jvm.Cond.code ({ cls := "CoinKeeper", name := "connect", desc := "(LCoinKeeper$Block;)I" } : Jvm.MethodName) prog_1_method_16_code (8 : Nat) (Option.some Jvm.ClassFile.FieldType.int) ∈ gw := gw_of (mt_4 _ (List.mem_of_getElem? (i := 206) rfl)) rfl
theorem gw_927 : Jvm.Cond.methodLink "CoinKeeper" (274 : Nat) ({ cls := "CoinKeeper", name := "collect", desc := "(LCoinKeeper$Block;I)I" } : Jvm.MethodName) ∈ gw := gw_of (mt_4 _ (List.mem_of_getElem? (i := 207) rfl)) rfl
theorem mw_928 : Jvm.Cond.privateMethod ({ cls := "CoinKeeper", name := "collect", desc := "(LCoinKeeper$Block;I)I" } : Jvm.MethodName) ∈ lw_tbl := mt_4 _ (List.mem_of_getElem? (i := 208) rfl)
theorem gw_929 : Jvm.Cond.instanceMethod ({ cls := "CoinKeeper", name := "collect", desc := "(LCoinKeeper$Block;I)I" } : Jvm.MethodName) ∈ gw := gw_of (mt_4 _ (List.mem_of_getElem? (i := 209) rfl)) rfl
theorem gw_930 : Jvm.Cond.code ({ cls := "CoinKeeper", name := "collect", desc := "(LCoinKeeper$Block;I)I" } : Jvm.MethodName) prog_1_method_17_code (4 : Nat) (Option.some Jvm.ClassFile.FieldType.int) ∈ gw := gw_of (mt_4 _ (List.mem_of_getElem? (i := 210) rfl)) rfl
theorem gw_931 : Jvm.Cond.methodLink "CoinKeeper" (180 : Nat) ({ cls := "CoinKeeper$Ledger", name := "find", desc := "([BII)LCoinKeeper$Coin;" } : Jvm.MethodName) ∈ gw := gw_of (mt_4 _ (List.mem_of_getElem? (i := 211) rfl)) rfl
theorem gw_932 : Jvm.Cond.instanceMethod ({ cls := "CoinKeeper$Ledger", name := "find", desc := "([BII)LCoinKeeper$Coin;" } : Jvm.MethodName) ∈ gw := gw_of (mt_4 _ (List.mem_of_getElem? (i := 212) rfl)) rfl
theorem gw_933 : Jvm.Cond.selects "CoinKeeper$Ledger" ({ cls := "CoinKeeper$Ledger", name := "find", desc := "([BII)LCoinKeeper$Coin;" } : Jvm.MethodName) ({ cls := "CoinKeeper$Ledger", name := "find", desc := "([BII)LCoinKeeper$Coin;" } : Jvm.MethodName) ∈ gw := gw_of (mt_4 _ (List.mem_of_getElem? (i := 213) rfl)) rfl
theorem gw_934 : Jvm.Cond.code ({ cls := "CoinKeeper$Ledger", name := "find", desc := "([BII)LCoinKeeper$Coin;" } : Jvm.MethodName) prog_6_method_2_code (7 : Nat) (Option.some (Jvm.ClassFile.FieldType.object "CoinKeeper$Coin")) ∈ gw := gw_of (mt_4 _ (List.mem_of_getElem? (i := 214) rfl)) rfl
theorem mw_935 : Jvm.Cond.methodLinkNest "CoinKeeper$Ledger" (19 : Nat) ({ cls := "CoinKeeper", name := "word", desc := "([BI)I" } : Jvm.MethodName) "CoinKeeper" ∈ lw_tbl := mt_4 _ (List.mem_of_getElem? (i := 215) rfl)
theorem mw_936 : Jvm.Cond.methodLinkNest "CoinKeeper$Ledger" (55 : Nat) ({ cls := "CoinKeeper", name := "same", desc := "([BI[BII)Z" } : Jvm.MethodName) "CoinKeeper" ∈ lw_tbl := mt_4 _ (List.mem_of_getElem? (i := 216) rfl)
theorem gw_937 : Jvm.Cond.methodLink "CoinKeeper" (278 : Nat) ({ cls := "CoinKeeper", name := "spentValue", desc := "(I)J" } : Jvm.MethodName) ∈ gw := gw_of (mt_4 _ (List.mem_of_getElem? (i := 217) rfl)) rfl
theorem mw_938 : Jvm.Cond.privateMethod ({ cls := "CoinKeeper", name := "spentValue", desc := "(I)J" } : Jvm.MethodName) ∈ lw_tbl := mt_4 _ (List.mem_of_getElem? (i := 218) rfl)
theorem gw_939 : Jvm.Cond.instanceMethod ({ cls := "CoinKeeper", name := "spentValue", desc := "(I)J" } : Jvm.MethodName) ∈ gw := gw_of (mt_4 _ (List.mem_of_getElem? (i := 219) rfl)) rfl
theorem gw_940 : Jvm.Cond.code ({ cls := "CoinKeeper", name := "spentValue", desc := "(I)J" } : Jvm.MethodName) prog_1_method_18_code (5 : Nat) (Option.some Jvm.ClassFile.FieldType.long) ∈ gw := gw_of (mt_4 _ (List.mem_of_getElem? (i := 220) rfl)) rfl
theorem gw_941 : Jvm.Cond.methodLink "CoinKeeper" (282 : Nat) ({ cls := "CoinKeeper$Layout", name := "valueOut", desc := "(I)J" } : Jvm.MethodName) ∈ gw := gw_of (mt_4 _ (List.mem_of_getElem? (i := 221) rfl)) rfl
theorem gw_942 : Jvm.Cond.instanceMethod ({ cls := "CoinKeeper$Layout", name := "valueOut", desc := "(I)J" } : Jvm.MethodName) ∈ gw := gw_of (mt_4 _ (List.mem_of_getElem? (i := 222) rfl)) rfl
theorem gw_943 : Jvm.Cond.selects "CoinKeeper$Layout" ({ cls := "CoinKeeper$Layout", name := "valueOut", desc := "(I)J" } : Jvm.MethodName) ({ cls := "CoinKeeper$Layout", name := "valueOut", desc := "(I)J" } : Jvm.MethodName) ∈ gw := gw_of (mt_4 _ (List.mem_of_getElem? (i := 223) rfl)) rfl
theorem gw_944 : Jvm.Cond.code ({ cls := "CoinKeeper$Layout", name := "valueOut", desc := "(I)J" } : Jvm.MethodName) prog_5_method_18_code (5 : Nat) (Option.some Jvm.ClassFile.FieldType.long) ∈ gw := gw_of (mt_4 _ (List.mem_of_getElem? (i := 224) rfl)) rfl
theorem gw_945 : Jvm.Cond.methodLink "CoinKeeper" (285 : Nat) ({ cls := "CoinKeeper", name := "exchange", desc := "(LCoinKeeper$Block;I)V" } : Jvm.MethodName) ∈ gw := gw_of (mt_4 _ (List.mem_of_getElem? (i := 225) rfl)) rfl
theorem mw_946 : Jvm.Cond.privateMethod ({ cls := "CoinKeeper", name := "exchange", desc := "(LCoinKeeper$Block;I)V" } : Jvm.MethodName) ∈ lw_tbl := mt_4 _ (List.mem_of_getElem? (i := 226) rfl)
theorem gw_947 : Jvm.Cond.instanceMethod ({ cls := "CoinKeeper", name := "exchange", desc := "(LCoinKeeper$Block;I)V" } : Jvm.MethodName) ∈ gw := gw_of (mt_4 _ (List.mem_of_getElem? (i := 227) rfl)) rfl
theorem gw_948 : Jvm.Cond.code ({ cls := "CoinKeeper", name := "exchange", desc := "(LCoinKeeper$Block;I)V" } : Jvm.MethodName) prog_1_method_19_code (4 : Nat) (Option.none : Option Jvm.ClassFile.FieldType) ∈ gw := gw_of (mt_4 _ (List.mem_of_getElem? (i := 228) rfl)) rfl
theorem gw_949 : Jvm.Cond.methodLink "CoinKeeper" (306 : Nat) ({ cls := "CoinKeeper$Ledger", name := "flip", desc := "(LCoinKeeper$Coin;)V" } : Jvm.MethodName) ∈ gw := gw_of (mt_4 _ (List.mem_of_getElem? (i := 229) rfl)) rfl
theorem gw_950 : Jvm.Cond.instanceMethod ({ cls := "CoinKeeper$Ledger", name := "flip", desc := "(LCoinKeeper$Coin;)V" } : Jvm.MethodName) ∈ gw := gw_of (mt_4 _ (List.mem_of_getElem? (i := 230) rfl)) rfl
theorem gw_951 : Jvm.Cond.selects "CoinKeeper$Ledger" ({ cls := "CoinKeeper$Ledger", name := "flip", desc := "(LCoinKeeper$Coin;)V" } : Jvm.MethodName) ({ cls := "CoinKeeper$Ledger", name := "flip", desc := "(LCoinKeeper$Coin;)V" } : Jvm.MethodName) ∈ gw := gw_of (mt_4 _ (List.mem_of_getElem? (i := 231) rfl)) rfl
theorem gw_952 : Jvm.Cond.code ({ cls := "CoinKeeper$Ledger", name := "flip", desc := "(LCoinKeeper$Coin;)V" } : Jvm.MethodName) prog_6_method_4_code (2 : Nat) (Option.none : Option Jvm.ClassFile.FieldType) ∈ gw := gw_of (mt_4 _ (List.mem_of_getElem? (i := 232) rfl)) rfl
theorem gw_953 : Jvm.Cond.methodLink "CoinKeeper" (310 : Nat) ({ cls := "CoinKeeper$Ledger", name := "put", desc := "(LCoinKeeper$Coin;)V" } : Jvm.MethodName) ∈ gw := gw_of (mt_4 _ (List.mem_of_getElem? (i := 233) rfl)) rfl
theorem gw_954 : Jvm.Cond.instanceMethod ({ cls := "CoinKeeper$Ledger", name := "put", desc := "(LCoinKeeper$Coin;)V" } : Jvm.MethodName) ∈ gw := gw_of (mt_4 _ (List.mem_of_getElem? (i := 234) rfl)) rfl
theorem gw_955 : Jvm.Cond.selects "CoinKeeper$Ledger" ({ cls := "CoinKeeper$Ledger", name := "put", desc := "(LCoinKeeper$Coin;)V" } : Jvm.MethodName) ({ cls := "CoinKeeper$Ledger", name := "put", desc := "(LCoinKeeper$Coin;)V" } : Jvm.MethodName) ∈ gw := gw_of (mt_4 _ (List.mem_of_getElem? (i := 235) rfl)) rfl
theorem gw_956 : Jvm.Cond.code ({ cls := "CoinKeeper$Ledger", name := "put", desc := "(LCoinKeeper$Coin;)V" } : Jvm.MethodName) prog_6_method_3_code (3 : Nat) (Option.none : Option Jvm.ClassFile.FieldType) ∈ gw := gw_of (mt_4 _ (List.mem_of_getElem? (i := 236) rfl)) rfl
theorem gw_957 : Jvm.Cond.methodLink "CoinKeeper$Ledger" (59 : Nat) ({ cls := "CoinKeeper$Ledger", name := "find", desc := "([BII)LCoinKeeper$Coin;" } : Jvm.MethodName) ∈ gw := gw_of (mt_4 _ (List.mem_of_getElem? (i := 237) rfl)) rfl
theorem gw_958 : Jvm.Cond.methodLink "CoinKeeper$Ledger" (63 : Nat) ({ cls := "CoinKeeper$Ledger", name := "flip", desc := "(LCoinKeeper$Coin;)V" } : Jvm.MethodName) ∈ gw := gw_of (mt_4 _ (List.mem_of_getElem? (i := 238) rfl)) rfl
theorem gw_959 : Jvm.Cond.methodLink "CoinKeeper" (289 : Nat) ({ cls := "CoinKeeper$Ledger", name := "mark", desc := "()I" } : Jvm.MethodName) ∈ gw := gw_of (mt_4 _ (List.mem_of_getElem? (i := 239) rfl)) rfl
theorem gw_960 : Jvm.Cond.instanceMethod ({ cls := "CoinKeeper$Ledger", name := "mark", desc := "()I" } : Jvm.MethodName) ∈ gw := gw_of (mt_5 _ (List.mem_of_getElem? (i := 0) rfl)) rfl
theorem gw_961 : Jvm.Cond.selects "CoinKeeper$Ledger" ({ cls := "CoinKeeper$Ledger", name := "mark", desc := "()I" } : Jvm.MethodName) ({ cls := "CoinKeeper$Ledger", name := "mark", desc := "()I" } : Jvm.MethodName) ∈ gw := gw_of (mt_5 _ (List.mem_of_getElem? (i := 1) rfl)) rfl
theorem gw_962 : Jvm.Cond.code ({ cls := "CoinKeeper$Ledger", name := "mark", desc := "()I" } : Jvm.MethodName) prog_6_method_5_code (1 : Nat) (Option.some Jvm.ClassFile.FieldType.int) ∈ gw := gw_of (mt_5 _ (List.mem_of_getElem? (i := 2) rfl)) rfl
theorem gw_963 : Jvm.Cond.methodLink "CoinKeeper" (291 : Nat) ({ cls := "CoinKeeper$Block", name := "subsidy", desc := "()J" } : Jvm.MethodName) ∈ gw := gw_of (mt_5 _ (List.mem_of_getElem? (i := 3) rfl)) rfl
theorem gw_964 : Jvm.Cond.instanceMethod ({ cls := "CoinKeeper$Block", name := "subsidy", desc := "()J" } : Jvm.MethodName) ∈ gw := gw_of (mt_5 _ (List.mem_of_getElem? (i := 4) rfl)) rfl
theorem gw_965 : Jvm.Cond.selects "CoinKeeper$Block" ({ cls := "CoinKeeper$Block", name := "subsidy", desc := "()J" } : Jvm.MethodName) ({ cls := "CoinKeeper$Block", name := "subsidy", desc := "()J" } : Jvm.MethodName) ∈ gw := gw_of (mt_5 _ (List.mem_of_getElem? (i := 5) rfl)) rfl
theorem gw_966 : Jvm.Cond.code ({ cls := "CoinKeeper$Block", name := "subsidy", desc := "()J" } : Jvm.MethodName) prog_2_method_4_code (1 : Nat) (Option.some Jvm.ClassFile.FieldType.long) ∈ gw := gw_of (mt_5 _ (List.mem_of_getElem? (i := 6) rfl)) rfl
theorem gw_967 : Jvm.Cond.constantLong "CoinKeeper$Block" (62 : Nat) (5000000000 : Int64) ∈ gw := gw_of (mt_5 _ (List.mem_of_getElem? (i := 7) rfl)) rfl
theorem gw_968 : Jvm.Cond.methodLink "CoinKeeper" (137 : Nat) ({ cls := "CoinKeeper", name := "scriptsHold", desc := "()Z" } : Jvm.MethodName) ∈ gw := gw_of (mt_5 _ (List.mem_of_getElem? (i := 8) rfl)) rfl
theorem mw_969 : Jvm.Cond.privateMethod ({ cls := "CoinKeeper", name := "scriptsHold", desc := "()Z" } : Jvm.MethodName) ∈ lw_tbl := mt_5 _ (List.mem_of_getElem? (i := 9) rfl)
theorem gw_970 : Jvm.Cond.instanceMethod ({ cls := "CoinKeeper", name := "scriptsHold", desc := "()Z" } : Jvm.MethodName) ∈ gw := gw_of (mt_5 _ (List.mem_of_getElem? (i := 10) rfl)) rfl
theorem gw_971 : Jvm.Cond.code ({ cls := "CoinKeeper", name := "scriptsHold", desc := "()Z" } : Jvm.MethodName) prog_1_method_20_code (4 : Nat) (Option.some Jvm.ClassFile.FieldType.boolean) ∈ gw := gw_of (mt_5 _ (List.mem_of_getElem? (i := 11) rfl)) rfl
theorem gw_972 : Jvm.Cond.methodLink "CoinKeeper" (148 : Nat) ({ cls := "CoinKeeper$Machine", name := "load", desc := "(I[BII)V" } : Jvm.MethodName) ∈ gw := gw_of (mt_5 _ (List.mem_of_getElem? (i := 12) rfl)) rfl
theorem gw_973 : Jvm.Cond.instanceMethod ({ cls := "CoinKeeper$Machine", name := "load", desc := "(I[BII)V" } : Jvm.MethodName) ∈ gw := gw_of (mt_5 _ (List.mem_of_getElem? (i := 13) rfl)) rfl
theorem gw_974 : Jvm.Cond.selects "CoinKeeper$Machine" ({ cls := "CoinKeeper$Machine", name := "load", desc := "(I[BII)V" } : Jvm.MethodName) ({ cls := "CoinKeeper$Machine", name := "load", desc := "(I[BII)V" } : Jvm.MethodName) ∈ gw := gw_of (mt_5 _ (List.mem_of_getElem? (i := 14) rfl)) rfl
theorem gw_975 : Jvm.Cond.code ({ cls := "CoinKeeper$Machine", name := "load", desc := "(I[BII)V" } : Jvm.MethodName) prog_7_method_2_code (6 : Nat) (Option.none : Option Jvm.ClassFile.FieldType) ∈ gw := gw_of (mt_5 _ (List.mem_of_getElem? (i := 15) rfl)) rfl
theorem gw_976 : Jvm.Cond.methodLink "CoinKeeper$Machine" (44 : Nat) ({ cls := "java/lang/System", name := "arraycopy", desc := "(Ljava/lang/Object;ILjava/lang/Object;II)V" } : Jvm.MethodName) ∈ gw := gw_of (mt_5 _ (List.mem_of_getElem? (i := 16) rfl)) rfl
theorem gw_977 : Jvm.Cond.methodLink "CoinKeeper" (326 : Nat) ({ cls := "CoinKeeper$Machine", name := "spend", desc := "(LCoinKeeper$Layout;IILCoinKeeper$Coin;)V" } : Jvm.MethodName) ∈ gw := gw_of (mt_5 _ (List.mem_of_getElem? (i := 17) rfl)) rfl
theorem gw_978 : Jvm.Cond.instanceMethod ({ cls := "CoinKeeper$Machine", name := "spend", desc := "(LCoinKeeper$Layout;IILCoinKeeper$Coin;)V" } : Jvm.MethodName) ∈ gw := gw_of (mt_5 _ (List.mem_of_getElem? (i := 18) rfl)) rfl
theorem gw_979 : Jvm.Cond.selects "CoinKeeper$Machine" ({ cls := "CoinKeeper$Machine", name := "spend", desc := "(LCoinKeeper$Layout;IILCoinKeeper$Coin;)V" } : Jvm.MethodName) ({ cls := "CoinKeeper$Machine", name := "spend", desc := "(LCoinKeeper$Layout;IILCoinKeeper$Coin;)V" } : Jvm.MethodName) ∈ gw := gw_of (mt_5 _ (List.mem_of_getElem? (i := 19) rfl)) rfl
theorem gw_980 : Jvm.Cond.code ({ cls := "CoinKeeper$Machine", name := "spend", desc := "(LCoinKeeper$Layout;IILCoinKeeper$Coin;)V" } : Jvm.MethodName) prog_7_method_4_code (5 : Nat) (Option.none : Option Jvm.ClassFile.FieldType) ∈ gw := gw_of (mt_5 _ (List.mem_of_getElem? (i := 20) rfl)) rfl
theorem gw_981 : Jvm.Cond.methodLink "CoinKeeper" (155 : Nat) ({ cls := "CoinKeeper$Machine", name := "run", desc := "(I)Z" } : Jvm.MethodName) ∈ gw := gw_of (mt_5 _ (List.mem_of_getElem? (i := 21) rfl)) rfl
theorem gw_982 : Jvm.Cond.instanceMethod ({ cls := "CoinKeeper$Machine", name := "run", desc := "(I)Z" } : Jvm.MethodName) ∈ gw := gw_of (mt_5 _ (List.mem_of_getElem? (i := 22) rfl)) rfl
theorem gw_983 : Jvm.Cond.selects "CoinKeeper$Machine" ({ cls := "CoinKeeper$Machine", name := "run", desc := "(I)Z" } : Jvm.MethodName) ({ cls := "CoinKeeper$Machine", name := "run", desc := "(I)Z" } : Jvm.MethodName) ∈ gw := gw_of (mt_5 _ (List.mem_of_getElem? (i := 23) rfl)) rfl
theorem gw_984 : Jvm.Cond.code ({ cls := "CoinKeeper$Machine", name := "run", desc := "(I)Z" } : Jvm.MethodName) prog_7_method_6_code (7 : Nat) (Option.some Jvm.ClassFile.FieldType.boolean) ∈ gw := gw_of (mt_5 _ (List.mem_of_getElem? (i := 24) rfl)) rfl
theorem gw_985 : Jvm.Cond.methodLink "CoinKeeper$Machine" (95 : Nat) ({ cls := "CoinKeeper$Machine", name := "push", desc := "(I)V" } : Jvm.MethodName) ∈ gw := gw_of (mt_5 _ (List.mem_of_getElem? (i := 25) rfl)) rfl
theorem mw_986 : Jvm.Cond.privateMethod ({ cls := "CoinKeeper$Machine", name := "push", desc := "(I)V" } : Jvm.MethodName) ∈ lw_tbl := mt_5 _ (List.mem_of_getElem? (i := 26) rfl)
theorem gw_987 : Jvm.Cond.instanceMethod ({ cls := "CoinKeeper$Machine", name := "push", desc := "(I)V" } : Jvm.MethodName) ∈ gw := gw_of (mt_5 _ (List.mem_of_getElem? (i := 27) rfl)) rfl
theorem gw_988 : Jvm.Cond.code ({ cls := "CoinKeeper$Machine", name := "push", desc := "(I)V" } : Jvm.MethodName) prog_7_method_7_code (2 : Nat) (Option.none : Option Jvm.ClassFile.FieldType) ∈ gw := gw_of (mt_5 _ (List.mem_of_getElem? (i := 28) rfl)) rfl
theorem gw_989 : Jvm.Cond.methodLink "CoinKeeper$Machine" (99 : Nat) ({ cls := "CoinKeeper$Machine", name := "branch", desc := "(I)Z" } : Jvm.MethodName) ∈ gw := gw_of (mt_5 _ (List.mem_of_getElem? (i := 29) rfl)) rfl
theorem mw_990 : Jvm.Cond.privateMethod ({ cls := "CoinKeeper$Machine", name := "branch", desc := "(I)Z" } : Jvm.MethodName) ∈ lw_tbl := mt_5 _ (List.mem_of_getElem? (i := 30) rfl)
theorem gw_991 : Jvm.Cond.instanceMethod ({ cls := "CoinKeeper$Machine", name := "branch", desc := "(I)Z" } : Jvm.MethodName) ∈ gw := gw_of (mt_5 _ (List.mem_of_getElem? (i := 31) rfl)) rfl
theorem gw_992 : Jvm.Cond.code ({ cls := "CoinKeeper$Machine", name := "branch", desc := "(I)Z" } : Jvm.MethodName) prog_7_method_14_code (3 : Nat) (Option.some Jvm.ClassFile.FieldType.boolean) ∈ gw := gw_of (mt_5 _ (List.mem_of_getElem? (i := 32) rfl)) rfl
theorem gw_993 : Jvm.Cond.methodLink "CoinKeeper$Machine" (79 : Nat) ({ cls := "CoinKeeper$Machine", name := "isTrue", desc := "(I)Z" } : Jvm.MethodName) ∈ gw := gw_of (mt_5 _ (List.mem_of_getElem? (i := 33) rfl)) rfl
theorem mw_994 : Jvm.Cond.privateMethod ({ cls := "CoinKeeper$Machine", name := "isTrue", desc := "(I)Z" } : Jvm.MethodName) ∈ lw_tbl := mt_5 _ (List.mem_of_getElem? (i := 34) rfl)
theorem gw_995 : Jvm.Cond.instanceMethod ({ cls := "CoinKeeper$Machine", name := "isTrue", desc := "(I)Z" } : Jvm.MethodName) ∈ gw := gw_of (mt_5 _ (List.mem_of_getElem? (i := 35) rfl)) rfl
theorem gw_996 : Jvm.Cond.code ({ cls := "CoinKeeper$Machine", name := "isTrue", desc := "(I)Z" } : Jvm.MethodName) prog_7_method_11_code (4 : Nat) (Option.some Jvm.ClassFile.FieldType.boolean) ∈ gw := gw_of (mt_5 _ (List.mem_of_getElem? (i := 36) rfl)) rfl
theorem gw_997 : Jvm.Cond.methodLink "CoinKeeper$Machine" (117 : Nat) ({ cls := "CoinKeeper$Machine", name := "placeOf", desc := "(I)I" } : Jvm.MethodName) ∈ gw := gw_of (mt_5 _ (List.mem_of_getElem? (i := 37) rfl)) rfl
theorem gw_998 : Jvm.Cond.static ({ cls := "CoinKeeper$Machine", name := "placeOf", desc := "(I)I" } : Jvm.MethodName) ∈ gw := gw_of (mt_5 _ (List.mem_of_getElem? (i := 38) rfl)) rfl
theorem gw_999 : Jvm.Cond.code ({ cls := "CoinKeeper$Machine", name := "placeOf", desc := "(I)I" } : Jvm.MethodName) prog_7_method_10_code (1 : Nat) (Option.some Jvm.ClassFile.FieldType.int) ∈ gw := gw_of (mt_5 _ (List.mem_of_getElem? (i := 39) rfl)) rfl
theorem gw_1000 : Jvm.Cond.methodLink "CoinKeeper$Machine" (121 : Nat) ({ cls := "CoinKeeper$Machine", name := "lengthOf", desc := "(I)I" } : Jvm.MethodName) ∈ gw := gw_of (mt_5 _ (List.mem_of_getElem? (i := 40) rfl)) rfl
theorem gw_1001 : Jvm.Cond.static ({ cls := "CoinKeeper$Machine", name := "lengthOf", desc := "(I)I" } : Jvm.MethodName) ∈ gw := gw_of (mt_5 _ (List.mem_of_getElem? (i := 41) rfl)) rfl
theorem gw_1002 : Jvm.Cond.code ({ cls := "CoinKeeper$Machine", name := "lengthOf", desc := "(I)I" } : Jvm.MethodName) prog_7_method_9_code (1 : Nat) (Option.some Jvm.ClassFile.FieldType.int) ∈ gw := gw_of (mt_5 _ (List.mem_of_getElem? (i := 42) rfl)) rfl
theorem gw_1003 : Jvm.Cond.methodLink "CoinKeeper$Machine" (102 : Nat) ({ cls := "CoinKeeper$Machine", name := "checkMany", desc := "(I)Z" } : Jvm.MethodName) ∈ gw := gw_of (mt_5 _ (List.mem_of_getElem? (i := 43) rfl)) rfl
theorem mw_1004 : Jvm.Cond.privateMethod ({ cls := "CoinKeeper$Machine", name := "checkMany", desc := "(I)Z" } : Jvm.MethodName) ∈ lw_tbl := mt_5 _ (List.mem_of_getElem? (i := 44) rfl)
theorem gw_1005 : Jvm.Cond.instanceMethod ({ cls := "CoinKeeper$Machine", name := "checkMany", desc := "(I)Z" } : Jvm.MethodName) ∈ gw := gw_of (mt_5 _ (List.mem_of_getElem? (i := 45) rfl)) rfl
theorem gw_1006 : Jvm.Cond.code ({ cls := "CoinKeeper$Machine", name := "checkMany", desc := "(I)Z" } : Jvm.MethodName) prog_7_method_30_code (6 : Nat) (Option.some Jvm.ClassFile.FieldType.boolean) ∈ gw := gw_of (mt_5 _ (List.mem_of_getElem? (i := 46) rfl)) rfl
theorem gw_1007 : Jvm.Cond.methodLink "CoinKeeper$Machine" (205 : Nat) ({ cls := "CoinKeeper$Machine", name := "popLimited", desc := "(I)I" } : Jvm.MethodName) ∈ gw := gw_of (mt_5 _ (List.mem_of_getElem? (i := 47) rfl)) rfl
theorem mw_1008 : Jvm.Cond.privateMethod ({ cls := "CoinKeeper$Machine", name := "popLimited", desc := "(I)I" } : Jvm.MethodName) ∈ lw_tbl := mt_5 _ (List.mem_of_getElem? (i := 48) rfl)
theorem gw_1009 : Jvm.Cond.instanceMethod ({ cls := "CoinKeeper$Machine", name := "popLimited", desc := "(I)I" } : Jvm.MethodName) ∈ gw := gw_of (mt_5 _ (List.mem_of_getElem? (i := 49) rfl)) rfl
theorem gw_1010 : Jvm.Cond.code ({ cls := "CoinKeeper$Machine", name := "popLimited", desc := "(I)I" } : Jvm.MethodName) prog_7_method_31_code (4 : Nat) (Option.some Jvm.ClassFile.FieldType.int) ∈ gw := gw_of (mt_5 _ (List.mem_of_getElem? (i := 50) rfl)) rfl
theorem gw_1011 : Jvm.Cond.methodLink "CoinKeeper$Machine" (167 : Nat) ({ cls := "CoinKeeper$Machine", name := "isNumber", desc := "(I)Z" } : Jvm.MethodName) ∈ gw := gw_of (mt_5 _ (List.mem_of_getElem? (i := 51) rfl)) rfl
theorem mw_1012 : Jvm.Cond.privateMethod ({ cls := "CoinKeeper$Machine", name := "isNumber", desc := "(I)Z" } : Jvm.MethodName) ∈ lw_tbl := mt_5 _ (List.mem_of_getElem? (i := 52) rfl)
theorem gw_1013 : Jvm.Cond.instanceMethod ({ cls := "CoinKeeper$Machine", name := "isNumber", desc := "(I)Z" } : Jvm.MethodName) ∈ gw := gw_of (mt_5 _ (List.mem_of_getElem? (i := 53) rfl)) rfl
theorem gw_1014 : Jvm.Cond.code ({ cls := "CoinKeeper$Machine", name := "isNumber", desc := "(I)Z" } : Jvm.MethodName) prog_7_method_12_code (2 : Nat) (Option.some Jvm.ClassFile.FieldType.boolean) ∈ gw := gw_of (mt_5 _ (List.mem_of_getElem? (i := 54) rfl)) rfl
theorem gw_1015 : Jvm.Cond.methodLink "CoinKeeper$Machine" (170 : Nat) ({ cls := "CoinKeeper$Machine", name := "numberOf", desc := "(I)J" } : Jvm.MethodName) ∈ gw := gw_of (mt_5 _ (List.mem_of_getElem? (i := 55) rfl)) rfl
theorem mw_1016 : Jvm.Cond.privateMethod ({ cls := "CoinKeeper$Machine", name := "numberOf", desc := "(I)J" } : Jvm.MethodName) ∈ lw_tbl := mt_5 _ (List.mem_of_getElem? (i := 56) rfl)
theorem gw_1017 : Jvm.Cond.instanceMethod ({ cls := "CoinKeeper$Machine", name := "numberOf", desc := "(I)J" } : Jvm.MethodName) ∈ gw := gw_of (mt_5 _ (List.mem_of_getElem? (i := 57) rfl)) rfl
theorem gw_1018 : Jvm.Cond.code ({ cls := "CoinKeeper$Machine", name := "numberOf", desc := "(I)J" } : Jvm.MethodName) prog_7_method_13_code (7 : Nat) (Option.some Jvm.ClassFile.FieldType.long) ∈ gw := gw_of (mt_5 _ (List.mem_of_getElem? (i := 58) rfl)) rfl
theorem gw_1019 : Jvm.Cond.constantLong "CoinKeeper$Machine" (124 : Nat) (128 : Int64) ∈ gw := gw_of (mt_5 _ (List.mem_of_getElem? (i := 59) rfl)) rfl
theorem gw_1020 : Jvm.Cond.methodLink "CoinKeeper$Machine" (208 : Nat) ({ cls := "java/lang/Math", name := "max", desc := "(II)I" } : Jvm.MethodName) ∈ gw := gw_of (mt_5 _ (List.mem_of_getElem? (i := 60) rfl)) rfl
theorem gw_1021 : Jvm.Cond.methodLink "CoinKeeper$Machine" (196 : Nat) ({ cls := "CoinKeeper$Machine", name := "hasMessage", desc := "()Z" } : Jvm.MethodName) ∈ gw := gw_of (mt_5 _ (List.mem_of_getElem? (i := 61) rfl)) rfl
theorem mw_1022 : Jvm.Cond.privateMethod ({ cls := "CoinKeeper$Machine", name := "hasMessage", desc := "()Z" } : Jvm.MethodName) ∈ lw_tbl := mt_5 _ (List.mem_of_getElem? (i := 62) rfl)
theorem gw_1023 : Jvm.Cond.instanceMethod ({ cls := "CoinKeeper$Machine", name := "hasMessage", desc := "()Z" } : Jvm.MethodName) ∈ gw := gw_of (mt_5 _ (List.mem_of_getElem? (i := 63) rfl)) rfl
theorem gw_1024 : Jvm.Cond.code ({ cls := "CoinKeeper$Machine", name := "hasMessage", desc := "()Z" } : Jvm.MethodName) prog_7_method_32_code (1 : Nat) (Option.some Jvm.ClassFile.FieldType.boolean) ∈ gw := gw_of (mt_5 _ (List.mem_of_getElem? (i := 64) rfl)) rfl
theorem gw_1025 : Jvm.Cond.methodLink "CoinKeeper$Machine" (211 : Nat) ({ cls := "CoinKeeper$Machine", name := "writeMessage", desc := "()V" } : Jvm.MethodName) ∈ gw := gw_of (mt_5 _ (List.mem_of_getElem? (i := 65) rfl)) rfl
theorem mw_1026 : Jvm.Cond.privateMethod ({ cls := "CoinKeeper$Machine", name := "writeMessage", desc := "()V" } : Jvm.MethodName) ∈ lw_tbl := mt_5 _ (List.mem_of_getElem? (i := 66) rfl)
theorem gw_1027 : Jvm.Cond.instanceMethod ({ cls := "CoinKeeper$Machine", name := "writeMessage", desc := "()V" } : Jvm.MethodName) ∈ gw := gw_of (mt_5 _ (List.mem_of_getElem? (i := 67) rfl)) rfl
theorem gw_1028 : Jvm.Cond.code ({ cls := "CoinKeeper$Machine", name := "writeMessage", desc := "()V" } : Jvm.MethodName) prog_7_method_33_code (4 : Nat) (Option.none : Option Jvm.ClassFile.FieldType) ∈ gw := gw_of (mt_5 _ (List.mem_of_getElem? (i := 68) rfl)) rfl
theorem gw_1029 : Jvm.Cond.methodLink "CoinKeeper$Machine" (222 : Nat) ({ cls := "CoinKeeper$Sha256", name := "begin", desc := "()V" } : Jvm.MethodName) ∈ gw := gw_of (mt_5 _ (List.mem_of_getElem? (i := 69) rfl)) rfl
theorem gw_1030 : Jvm.Cond.methodLink "CoinKeeper$Machine" (231 : Nat) ({ cls := "CoinKeeper$Sha256", name := "add", desc := "([BII)V" } : Jvm.MethodName) ∈ gw := gw_of (mt_5 _ (List.mem_of_getElem? (i := 70) rfl)) rfl
theorem gw_1031 : Jvm.Cond.fieldLink "CoinKeeper$Machine" (249 : Nat) "CoinKeeper$Machine" "ALL" "[B" ∈ gw := gw_of (mt_5 _ (List.mem_of_getElem? (i := 71) rfl)) rfl
theorem mw_1032 : Jvm.Cond.laysStatic "CoinKeeper$Machine" "ALL" "[B" ∈ lw_tbl := mt_5 _ (List.mem_of_getElem? (i := 72) rfl)
theorem gw_1033 : Jvm.Cond.methodLink "CoinKeeper$Machine" (255 : Nat) ({ cls := "CoinKeeper$Sha256", name := "finish", desc := "([BI)V" } : Jvm.MethodName) ∈ gw := gw_of (mt_5 _ (List.mem_of_getElem? (i := 73) rfl)) rfl
theorem gw_1034 : Jvm.Cond.methodLink "CoinKeeper$Machine" (199 : Nat) ({ cls := "CoinKeeper$Signatures", name := "verify", desc := "([BIIIII)Z" } : Jvm.MethodName) ∈ gw := gw_of (mt_5 _ (List.mem_of_getElem? (i := 74) rfl)) rfl
theorem gw_1035 : Jvm.Cond.instanceMethod ({ cls := "CoinKeeper$Signatures", name := "verify", desc := "([BIIIII)Z" } : Jvm.MethodName) ∈ gw := gw_of (mt_5 _ (List.mem_of_getElem? (i := 75) rfl)) rfl
theorem gw_1036 : Jvm.Cond.selects "CoinKeeper$Signatures" ({ cls := "CoinKeeper$Signatures", name := "verify", desc := "([BIIIII)Z" } : Jvm.MethodName) ({ cls := "CoinKeeper$Signatures", name := "verify", desc := "([BIIIII)Z" } : Jvm.MethodName) ∈ gw := gw_of (mt_5 _ (List.mem_of_getElem? (i := 76) rfl)) rfl
theorem gw_1037 : Jvm.Cond.code ({ cls := "CoinKeeper$Signatures", name := "verify", desc := "([BIIIII)Z" } : Jvm.MethodName) prog_12_method_2_code (9 : Nat) (Option.some Jvm.ClassFile.FieldType.boolean) ∈ gw := gw_of (mt_5 _ (List.mem_of_getElem? (i := 77) rfl)) rfl
theorem gw_1038 : Jvm.Cond.methodLink "CoinKeeper$Signatures" (67 : Nat) ({ cls := "CoinKeeper$Signatures", name := "isStrict", desc := "([BII)Z" } : Jvm.MethodName) ∈ gw := gw_of (mt_5 _ (List.mem_of_getElem? (i := 78) rfl)) rfl
theorem gw_1039 : Jvm.Cond.static ({ cls := "CoinKeeper$Signatures", name := "isStrict", desc := "([BII)Z" } : Jvm.MethodName) ∈ gw := gw_of (mt_5 _ (List.mem_of_getElem? (i := 79) rfl)) rfl
theorem gw_1040 : Jvm.Cond.code ({ cls := "CoinKeeper$Signatures", name := "isStrict", desc := "([BII)Z" } : Jvm.MethodName) prog_12_method_3_code (5 : Nat) (Option.some Jvm.ClassFile.FieldType.boolean) ∈ gw := gw_of (mt_5 _ (List.mem_of_getElem? (i := 80) rfl)) rfl
theorem gw_1041 : Jvm.Cond.methodLink "CoinKeeper$Signatures" (108 : Nat) ({ cls := "CoinKeeper$Signatures", name := "isStrictNumber", desc := "([BII)Z" } : Jvm.MethodName) ∈ gw := gw_of (mt_5 _ (List.mem_of_getElem? (i := 81) rfl)) rfl
theorem gw_1042 : Jvm.Cond.static ({ cls := "CoinKeeper$Signatures", name := "isStrictNumber", desc := "([BII)Z" } : Jvm.MethodName) ∈ gw := gw_of (mt_5 _ (List.mem_of_getElem? (i := 82) rfl)) rfl
theorem gw_1043 : Jvm.Cond.code ({ cls := "CoinKeeper$Signatures", name := "isStrictNumber", desc := "([BII)Z" } : Jvm.MethodName) prog_12_method_4_code (3 : Nat) (Option.some Jvm.ClassFile.FieldType.boolean) ∈ gw := gw_of (mt_5 _ (List.mem_of_getElem? (i := 83) rfl)) rfl
theorem gw_1044 : Jvm.Cond.methodLink "CoinKeeper$Signatures" (71 : Nat) ({ cls := "CoinKeeper$Signatures", name := "readNumber", desc := "([BII[J)Z" } : Jvm.MethodName) ∈ gw := gw_of (mt_5 _ (List.mem_of_getElem? (i := 84) rfl)) rfl
theorem gw_1045 : Jvm.Cond.static ({ cls := "CoinKeeper$Signatures", name := "readNumber", desc := "([BII[J)Z" } : Jvm.MethodName) ∈ gw := gw_of (mt_5 _ (List.mem_of_getElem? (i := 85) rfl)) rfl
theorem gw_1046 : Jvm.Cond.code ({ cls := "CoinKeeper$Signatures", name := "readNumber", desc := "([BII[J)Z" } : Jvm.MethodName) prog_12_method_5_code (5 : Nat) (Option.some Jvm.ClassFile.FieldType.boolean) ∈ gw := gw_of (mt_5 _ (List.mem_of_getElem? (i := 86) rfl)) rfl
theorem gw_1047 : Jvm.Cond.methodLink "CoinKeeper$Signatures" (79 : Nat) ({ cls := "CoinKeeper$Scalar", name := "load", desc := "([BII[J)V" } : Jvm.MethodName) ∈ gw := gw_of (mt_5 _ (List.mem_of_getElem? (i := 87) rfl)) rfl
theorem gw_1048 : Jvm.Cond.static ({ cls := "CoinKeeper$Scalar", name := "load", desc := "([BII[J)V" } : Jvm.MethodName) ∈ gw := gw_of (mt_5 _ (List.mem_of_getElem? (i := 88) rfl)) rfl
theorem gw_1049 : Jvm.Cond.code ({ cls := "CoinKeeper$Scalar", name := "load", desc := "([BII[J)V" } : Jvm.MethodName) prog_10_method_2_code (9 : Nat) (Option.none : Option Jvm.ClassFile.FieldType) ∈ gw := gw_of (mt_5 _ (List.mem_of_getElem? (i := 89) rfl)) rfl
theorem gw_1050 : Jvm.Cond.constantLong "CoinKeeper$Scalar" (7 : Nat) (255 : Int64) ∈ gw := gw_of (mt_5 _ (List.mem_of_getElem? (i := 90) rfl)) rfl
theorem gw_1051 : Jvm.Cond.constantLong "CoinKeeper$Scalar" (11 : Nat) (4503599627370495 : Int64) ∈ gw := gw_of (mt_5 _ (List.mem_of_getElem? (i := 91) rfl)) rfl
theorem gw_1052 : Jvm.Cond.methodLink "CoinKeeper$Signatures" (111 : Nat) ({ cls := "CoinKeeper$Scalar", name := "isZero", desc := "([J)Z" } : Jvm.MethodName) ∈ gw := gw_of (mt_5 _ (List.mem_of_getElem? (i := 92) rfl)) rfl
theorem gw_1053 : Jvm.Cond.static ({ cls := "CoinKeeper$Scalar", name := "isZero", desc := "([J)Z" } : Jvm.MethodName) ∈ gw := gw_of (mt_5 _ (List.mem_of_getElem? (i := 93) rfl)) rfl
theorem gw_1054 : Jvm.Cond.code ({ cls := "CoinKeeper$Scalar", name := "isZero", desc := "([J)Z" } : Jvm.MethodName) prog_10_method_4_code (1 : Nat) (Option.some Jvm.ClassFile.FieldType.boolean) ∈ gw := gw_of (mt_5 _ (List.mem_of_getElem? (i := 94) rfl)) rfl
theorem gw_1055 : Jvm.Cond.fieldLink "CoinKeeper$Signatures" (83 : Nat) "CoinKeeper$Scalar" "ORDER" "[J" ∈ gw := gw_of (mt_5 _ (List.mem_of_getElem? (i := 95) rfl)) rfl
theorem mw_1056 : Jvm.Cond.laysStatic "CoinKeeper$Scalar" "ORDER" "[J" ∈ lw_tbl := mt_5 _ (List.mem_of_getElem? (i := 96) rfl)
theorem gw_1057 : Jvm.Cond.methodLink "CoinKeeper$Signatures" (86 : Nat) ({ cls := "CoinKeeper$Scalar", name := "compare", desc := "([J[J)I" } : Jvm.MethodName) ∈ gw := gw_of (mt_5 _ (List.mem_of_getElem? (i := 97) rfl)) rfl
theorem gw_1058 : Jvm.Cond.static ({ cls := "CoinKeeper$Scalar", name := "compare", desc := "([J[J)I" } : Jvm.MethodName) ∈ gw := gw_of (mt_5 _ (List.mem_of_getElem? (i := 98) rfl)) rfl
theorem gw_1059 : Jvm.Cond.code ({ cls := "CoinKeeper$Scalar", name := "compare", desc := "([J[J)I" } : Jvm.MethodName) prog_10_method_3_code (3 : Nat) (Option.some Jvm.ClassFile.FieldType.int) ∈ gw := gw_of (mt_5 _ (List.mem_of_getElem? (i := 99) rfl)) rfl
theorem gw_1060 : Jvm.Cond.methodLink "CoinKeeper$Signatures" (75 : Nat) ({ cls := "CoinKeeper$Curve", name := "readKey", desc := "([BIILCoinKeeper$Point;)Z" } : Jvm.MethodName) ∈ gw := gw_of (mt_5 _ (List.mem_of_getElem? (i := 100) rfl)) rfl
theorem gw_1061 : Jvm.Cond.instanceMethod ({ cls := "CoinKeeper$Curve", name := "readKey", desc := "([BIILCoinKeeper$Point;)Z" } : Jvm.MethodName) ∈ gw := gw_of (mt_5 _ (List.mem_of_getElem? (i := 101) rfl)) rfl
theorem gw_1062 : Jvm.Cond.selects "CoinKeeper$Curve" ({ cls := "CoinKeeper$Curve", name := "readKey", desc := "([BIILCoinKeeper$Point;)Z" } : Jvm.MethodName) ({ cls := "CoinKeeper$Curve", name := "readKey", desc := "([BIILCoinKeeper$Point;)Z" } : Jvm.MethodName) ∈ gw := gw_of (mt_5 _ (List.mem_of_getElem? (i := 102) rfl)) rfl
theorem gw_1063 : Jvm.Cond.code ({ cls := "CoinKeeper$Curve", name := "readKey", desc := "([BIILCoinKeeper$Point;)Z" } : Jvm.MethodName) prog_4_method_2_code (8 : Nat) (Option.some Jvm.ClassFile.FieldType.boolean) ∈ gw := gw_of (mt_5 _ (List.mem_of_getElem? (i := 103) rfl)) rfl
theorem gw_1064 : Jvm.Cond.methodLink "CoinKeeper$Curve" (40 : Nat) ({ cls := "CoinKeeper$Curve", name := "readCoordinate", desc := "([BI[J)Z" } : Jvm.MethodName) ∈ gw := gw_of (mt_5 _ (List.mem_of_getElem? (i := 104) rfl)) rfl
theorem mw_1065 : Jvm.Cond.privateMethod ({ cls := "CoinKeeper$Curve", name := "readCoordinate", desc := "([BI[J)Z" } : Jvm.MethodName) ∈ lw_tbl := mt_5 _ (List.mem_of_getElem? (i := 105) rfl)
theorem gw_1066 : Jvm.Cond.instanceMethod ({ cls := "CoinKeeper$Curve", name := "readCoordinate", desc := "([BI[J)Z" } : Jvm.MethodName) ∈ gw := gw_of (mt_5 _ (List.mem_of_getElem? (i := 106) rfl)) rfl
theorem gw_1067 : Jvm.Cond.code ({ cls := "CoinKeeper$Curve", name := "readCoordinate", desc := "([BI[J)Z" } : Jvm.MethodName) prog_4_method_3_code (4 : Nat) (Option.some Jvm.ClassFile.FieldType.boolean) ∈ gw := gw_of (mt_5 _ (List.mem_of_getElem? (i := 107) rfl)) rfl
theorem gw_1068 : Jvm.Cond.methodLink "CoinKeeper$Curve" (71 : Nat) ({ cls := "CoinKeeper$Scalar", name := "load", desc := "([BII[J)V" } : Jvm.MethodName) ∈ gw := gw_of (mt_5 _ (List.mem_of_getElem? (i := 108) rfl)) rfl
theorem gw_1069 : Jvm.Cond.fieldLink "CoinKeeper$Curve" (75 : Nat) "CoinKeeper$Scalar" "PRIME" "[J" ∈ gw := gw_of (mt_5 _ (List.mem_of_getElem? (i := 109) rfl)) rfl
theorem mw_1070 : Jvm.Cond.laysStatic "CoinKeeper$Scalar" "PRIME" "[J" ∈ lw_tbl := mt_5 _ (List.mem_of_getElem? (i := 110) rfl)
theorem gw_1071 : Jvm.Cond.methodLink "CoinKeeper$Curve" (78 : Nat) ({ cls := "CoinKeeper$Scalar", name := "compare", desc := "([J[J)I" } : Jvm.MethodName) ∈ gw := gw_of (mt_5 _ (List.mem_of_getElem? (i := 111) rfl)) rfl
theorem gw_1072 : Jvm.Cond.methodLink "CoinKeeper$Curve" (82 : Nat) ({ cls := "CoinKeeper$Curve", name := "split", desc := "([J[J)V" } : Jvm.MethodName) ∈ gw := gw_of (mt_5 _ (List.mem_of_getElem? (i := 112) rfl)) rfl
theorem gw_1073 : Jvm.Cond.static ({ cls := "CoinKeeper$Curve", name := "split", desc := "([J[J)V" } : Jvm.MethodName) ∈ gw := gw_of (mt_5 _ (List.mem_of_getElem? (i := 113) rfl)) rfl
theorem gw_1074 : Jvm.Cond.code ({ cls := "CoinKeeper$Curve", name := "split", desc := "([J[J)V" } : Jvm.MethodName) prog_4_method_4_code (3 : Nat) (Option.none : Option Jvm.ClassFile.FieldType) ∈ gw := gw_of (mt_5 _ (List.mem_of_getElem? (i := 114) rfl)) rfl
theorem gw_1075 : Jvm.Cond.constantLong "CoinKeeper$Curve" (85 : Nat) (67108863 : Int64) ∈ gw := gw_of (mt_5 _ (List.mem_of_getElem? (i := 115) rfl)) rfl
theorem gw_1076 : Jvm.Cond.methodLink "CoinKeeper$Curve" (44 : Nat) ({ cls := "CoinKeeper$Curve", name := "multiply", desc := "([J[J[J)V" } : Jvm.MethodName) ∈ gw := gw_of (mt_5 _ (List.mem_of_getElem? (i := 116) rfl)) rfl
theorem gw_1077 : Jvm.Cond.static ({ cls := "CoinKeeper$Curve", name := "multiply", desc := "([J[J[J)V" } : Jvm.MethodName) ∈ gw := gw_of (mt_5 _ (List.mem_of_getElem? (i := 117) rfl)) rfl
theorem gw_1078 : Jvm.Cond.code ({ cls := "CoinKeeper$Curve", name := "multiply", desc := "([J[J[J)V" } : Jvm.MethodName) prog_4_method_12_code (65 : Nat) (Option.none : Option Jvm.ClassFile.FieldType) ∈ gw := gw_of (mt_5 _ (List.mem_of_getElem? (i := 118) rfl)) rfl
theorem gw_1079 : Jvm.Cond.constantLong "CoinKeeper$Curve" (125 : Nat) (15632 : Int64) ∈ gw := gw_of (mt_5 _ (List.mem_of_getElem? (i := 119) rfl)) rfl
theorem gw_1080 : Jvm.Cond.constantLong "CoinKeeper$Curve" (127 : Nat) (16007168 : Int64) ∈ gw := gw_of (mt_5 _ (List.mem_of_getElem? (i := 120) rfl)) rfl
theorem gw_1081 : Jvm.Cond.constantLong "CoinKeeper$Curve" (129 : Nat) (1024 : Int64) ∈ gw := gw_of (mt_5 _ (List.mem_of_getElem? (i := 121) rfl)) rfl
theorem gw_1082 : Jvm.Cond.constantLong "CoinKeeper$Curve" (131 : Nat) (1048576 : Int64) ∈ gw := gw_of (mt_5 _ (List.mem_of_getElem? (i := 122) rfl)) rfl
theorem gw_1083 : Jvm.Cond.constantLong "CoinKeeper$Curve" (119 : Nat) (4194303 : Int64) ∈ gw := gw_of (mt_5 _ (List.mem_of_getElem? (i := 123) rfl)) rfl
theorem gw_1084 : Jvm.Cond.constantLong "CoinKeeper$Curve" (121 : Nat) (977 : Int64) ∈ gw := gw_of (mt_5 _ (List.mem_of_getElem? (i := 124) rfl)) rfl
theorem gw_1085 : Jvm.Cond.constantLong "CoinKeeper$Curve" (48 : Nat) (7 : Int64) ∈ gw := gw_of (mt_5 _ (List.mem_of_getElem? (i := 125) rfl)) rfl
theorem gw_1086 : Jvm.Cond.methodLink "CoinKeeper$Curve" (53 : Nat) ({ cls := "CoinKeeper$Curve", name := "takeRoot", desc := "([J[J)V" } : Jvm.MethodName) ∈ gw := gw_of (mt_5 _ (List.mem_of_getElem? (i := 126) rfl)) rfl
theorem mw_1087 : Jvm.Cond.privateMethod ({ cls := "CoinKeeper$Curve", name := "takeRoot", desc := "([J[J)V" } : Jvm.MethodName) ∈ lw_tbl := mt_5 _ (List.mem_of_getElem? (i := 127) rfl)
theorem gw_1088 : Jvm.Cond.instanceMethod ({ cls := "CoinKeeper$Curve", name := "takeRoot", desc := "([J[J)V" } : Jvm.MethodName) ∈ gw := gw_of (mt_5 _ (List.mem_of_getElem? (i := 128) rfl)) rfl
theorem gw_1089 : Jvm.Cond.code ({ cls := "CoinKeeper$Curve", name := "takeRoot", desc := "([J[J)V" } : Jvm.MethodName) prog_4_method_6_code (5 : Nat) (Option.none : Option Jvm.ClassFile.FieldType) ∈ gw := gw_of (mt_5 _ (List.mem_of_getElem? (i := 129) rfl)) rfl
theorem gw_1090 : Jvm.Cond.methodLink "CoinKeeper$Curve" (87 : Nat) ({ cls := "java/lang/System", name := "arraycopy", desc := "(Ljava/lang/Object;ILjava/lang/Object;II)V" } : Jvm.MethodName) ∈ gw := gw_of (mt_5 _ (List.mem_of_getElem? (i := 130) rfl)) rfl
theorem gw_1091 : Jvm.Cond.fieldLink "CoinKeeper$Curve" (93 : Nat) "CoinKeeper$Curve" "ROOT_STEPS" "[B" ∈ gw := gw_of (mt_5 _ (List.mem_of_getElem? (i := 131) rfl)) rfl
theorem mw_1092 : Jvm.Cond.laysStatic "CoinKeeper$Curve" "ROOT_STEPS" "[B" ∈ lw_tbl := mt_5 _ (List.mem_of_getElem? (i := 132) rfl)
theorem gw_1093 : Jvm.Cond.methodLink "CoinKeeper$Curve" (57 : Nat) ({ cls := "CoinKeeper$Curve", name := "settle", desc := "([J)V" } : Jvm.MethodName) ∈ gw := gw_of (mt_5 _ (List.mem_of_getElem? (i := 133) rfl)) rfl
theorem gw_1094 : Jvm.Cond.static ({ cls := "CoinKeeper$Curve", name := "settle", desc := "([J)V" } : Jvm.MethodName) ∈ gw := gw_of (mt_5 _ (List.mem_of_getElem? (i := 134) rfl)) rfl
theorem gw_1095 : Jvm.Cond.code ({ cls := "CoinKeeper$Curve", name := "settle", desc := "([J)V" } : Jvm.MethodName) prog_4_method_11_code (8 : Nat) (Option.none : Option Jvm.ClassFile.FieldType) ∈ gw := gw_of (mt_5 _ (List.mem_of_getElem? (i := 135) rfl)) rfl
theorem gw_1096 : Jvm.Cond.constantLong "CoinKeeper$Curve" (123 : Nat) (64 : Int64) ∈ gw := gw_of (mt_5 _ (List.mem_of_getElem? (i := 136) rfl)) rfl
theorem gw_1097 : Jvm.Cond.methodLink "CoinKeeper$Curve" (61 : Nat) ({ cls := "CoinKeeper$Curve", name := "negate", desc := "([J)V" } : Jvm.MethodName) ∈ gw := gw_of (mt_5 _ (List.mem_of_getElem? (i := 137) rfl)) rfl
theorem gw_1098 : Jvm.Cond.static ({ cls := "CoinKeeper$Curve", name := "negate", desc := "([J)V" } : Jvm.MethodName) ∈ gw := gw_of (mt_5 _ (List.mem_of_getElem? (i := 138) rfl)) rfl
theorem gw_1099 : Jvm.Cond.code ({ cls := "CoinKeeper$Curve", name := "negate", desc := "([J)V" } : Jvm.MethodName) prog_4_method_5_code (2 : Nat) (Option.none : Option Jvm.ClassFile.FieldType) ∈ gw := gw_of (mt_5 _ (List.mem_of_getElem? (i := 139) rfl)) rfl
theorem gw_1100 : Jvm.Cond.methodLink "CoinKeeper$Curve" (64 : Nat) ({ cls := "CoinKeeper$Point", name := "becomePlain", desc := "()V" } : Jvm.MethodName) ∈ gw := gw_of (mt_5 _ (List.mem_of_getElem? (i := 140) rfl)) rfl
theorem gw_1101 : Jvm.Cond.methodLink "CoinKeeper$Curve" (67 : Nat) ({ cls := "CoinKeeper$Curve", name := "hasNoBit", desc := "([J)Z" } : Jvm.MethodName) ∈ gw := gw_of (mt_5 _ (List.mem_of_getElem? (i := 141) rfl)) rfl
theorem gw_1102 : Jvm.Cond.static ({ cls := "CoinKeeper$Curve", name := "hasNoBit", desc := "([J)Z" } : Jvm.MethodName) ∈ gw := gw_of (mt_5 _ (List.mem_of_getElem? (i := 142) rfl)) rfl
theorem gw_1103 : Jvm.Cond.code ({ cls := "CoinKeeper$Curve", name := "hasNoBit", desc := "([J)Z" } : Jvm.MethodName) prog_4_method_10_code (4 : Nat) (Option.some Jvm.ClassFile.FieldType.boolean) ∈ gw := gw_of (mt_5 _ (List.mem_of_getElem? (i := 143) rfl)) rfl
theorem gw_1104 : Jvm.Cond.methodLink "CoinKeeper$Signatures" (90 : Nat) ({ cls := "CoinKeeper$Scalar", name := "subtract", desc := "([J[J)V" } : Jvm.MethodName) ∈ gw := gw_of (mt_5 _ (List.mem_of_getElem? (i := 144) rfl)) rfl
theorem gw_1105 : Jvm.Cond.static ({ cls := "CoinKeeper$Scalar", name := "subtract", desc := "([J[J)V" } : Jvm.MethodName) ∈ gw := gw_of (mt_5 _ (List.mem_of_getElem? (i := 145) rfl)) rfl
theorem gw_1106 : Jvm.Cond.code ({ cls := "CoinKeeper$Scalar", name := "subtract", desc := "([J[J)V" } : Jvm.MethodName) prog_10_method_7_code (5 : Nat) (Option.none : Option Jvm.ClassFile.FieldType) ∈ gw := gw_of (mt_5 _ (List.mem_of_getElem? (i := 146) rfl)) rfl
theorem gw_1107 : Jvm.Cond.methodLink "CoinKeeper$Signatures" (94 : Nat) ({ cls := "CoinKeeper$Signatures", name := "divide", desc := "([J[J)V" } : Jvm.MethodName) ∈ gw := gw_of (mt_5 _ (List.mem_of_getElem? (i := 147) rfl)) rfl
theorem mw_1108 : Jvm.Cond.privateMethod ({ cls := "CoinKeeper$Signatures", name := "divide", desc := "([J[J)V" } : Jvm.MethodName) ∈ lw_tbl := mt_5 _ (List.mem_of_getElem? (i := 148) rfl)
theorem gw_1109 : Jvm.Cond.instanceMethod ({ cls := "CoinKeeper$Signatures", name := "divide", desc := "([J[J)V" } : Jvm.MethodName) ∈ gw := gw_of (mt_5 _ (List.mem_of_getElem? (i := 149) rfl)) rfl
theorem gw_1110 : Jvm.Cond.code ({ cls := "CoinKeeper$Signatures", name := "divide", desc := "([J[J)V" } : Jvm.MethodName) prog_12_method_6_code (9 : Nat) (Option.none : Option Jvm.ClassFile.FieldType) ∈ gw := gw_of (mt_5 _ (List.mem_of_getElem? (i := 150) rfl)) rfl
theorem gw_1111 : Jvm.Cond.methodLink "CoinKeeper$Signatures" (115 : Nat) ({ cls := "CoinKeeper$Scalar", name := "halve", desc := "([J)V" } : Jvm.MethodName) ∈ gw := gw_of (mt_5 _ (List.mem_of_getElem? (i := 151) rfl)) rfl
theorem gw_1112 : Jvm.Cond.static ({ cls := "CoinKeeper$Scalar", name := "halve", desc := "([J)V" } : Jvm.MethodName) ∈ gw := gw_of (mt_5 _ (List.mem_of_getElem? (i := 152) rfl)) rfl
theorem gw_1113 : Jvm.Cond.code ({ cls := "CoinKeeper$Scalar", name := "halve", desc := "([J)V" } : Jvm.MethodName) prog_10_method_9_code (2 : Nat) (Option.none : Option Jvm.ClassFile.FieldType) ∈ gw := gw_of (mt_5 _ (List.mem_of_getElem? (i := 153) rfl)) rfl
theorem gw_1114 : Jvm.Cond.methodLink "CoinKeeper$Signatures" (119 : Nat) ({ cls := "CoinKeeper$Scalar", name := "halveModulo", desc := "([J)V" } : Jvm.MethodName) ∈ gw := gw_of (mt_5 _ (List.mem_of_getElem? (i := 154) rfl)) rfl
theorem gw_1115 : Jvm.Cond.static ({ cls := "CoinKeeper$Scalar", name := "halveModulo", desc := "([J)V" } : Jvm.MethodName) ∈ gw := gw_of (mt_5 _ (List.mem_of_getElem? (i := 155) rfl)) rfl
theorem gw_1116 : Jvm.Cond.code ({ cls := "CoinKeeper$Scalar", name := "halveModulo", desc := "([J)V" } : Jvm.MethodName) prog_10_method_10_code (1 : Nat) (Option.none : Option Jvm.ClassFile.FieldType) ∈ gw := gw_of (mt_5 _ (List.mem_of_getElem? (i := 156) rfl)) rfl
theorem gw_1117 : Jvm.Cond.fieldLink "CoinKeeper$Scalar" (17 : Nat) "CoinKeeper$Scalar" "ORDER" "[J" ∈ gw := gw_of (mt_5 _ (List.mem_of_getElem? (i := 157) rfl)) rfl
theorem gw_1118 : Jvm.Cond.methodLink "CoinKeeper$Scalar" (21 : Nat) ({ cls := "CoinKeeper$Scalar", name := "add", desc := "([J[J)V" } : Jvm.MethodName) ∈ gw := gw_of (mt_5 _ (List.mem_of_getElem? (i := 158) rfl)) rfl
theorem gw_1119 : Jvm.Cond.static ({ cls := "CoinKeeper$Scalar", name := "add", desc := "([J[J)V" } : Jvm.MethodName) ∈ gw := gw_of (mt_5 _ (List.mem_of_getElem? (i := 159) rfl)) rfl
theorem gw_1120 : Jvm.Cond.code ({ cls := "CoinKeeper$Scalar", name := "add", desc := "([J[J)V" } : Jvm.MethodName) prog_10_method_6_code (5 : Nat) (Option.none : Option Jvm.ClassFile.FieldType) ∈ gw := gw_of (mt_5 _ (List.mem_of_getElem? (i := 160) rfl)) rfl
theorem gw_1121 : Jvm.Cond.methodLink "CoinKeeper$Scalar" (24 : Nat) ({ cls := "CoinKeeper$Scalar", name := "halve", desc := "([J)V" } : Jvm.MethodName) ∈ gw := gw_of (mt_5 _ (List.mem_of_getElem? (i := 161) rfl)) rfl
theorem gw_1122 : Jvm.Cond.methodLink "CoinKeeper$Signatures" (122 : Nat) ({ cls := "CoinKeeper$Scalar", name := "subtractModulo", desc := "([J[J)V" } : Jvm.MethodName) ∈ gw := gw_of (mt_5 _ (List.mem_of_getElem? (i := 162) rfl)) rfl
theorem gw_1123 : Jvm.Cond.static ({ cls := "CoinKeeper$Scalar", name := "subtractModulo", desc := "([J[J)V" } : Jvm.MethodName) ∈ gw := gw_of (mt_5 _ (List.mem_of_getElem? (i := 163) rfl)) rfl
theorem gw_1124 : Jvm.Cond.code ({ cls := "CoinKeeper$Scalar", name := "subtractModulo", desc := "([J[J)V" } : Jvm.MethodName) prog_10_method_8_code (2 : Nat) (Option.none : Option Jvm.ClassFile.FieldType) ∈ gw := gw_of (mt_5 _ (List.mem_of_getElem? (i := 164) rfl)) rfl
theorem gw_1125 : Jvm.Cond.methodLink "CoinKeeper$Scalar" (13 : Nat) ({ cls := "CoinKeeper$Scalar", name := "subtract", desc := "([J[J)V" } : Jvm.MethodName) ∈ gw := gw_of (mt_5 _ (List.mem_of_getElem? (i := 165) rfl)) rfl
theorem gw_1126 : Jvm.Cond.methodLink "CoinKeeper$Signatures" (125 : Nat) ({ cls := "java/lang/System", name := "arraycopy", desc := "(Ljava/lang/Object;ILjava/lang/Object;II)V" } : Jvm.MethodName) ∈ gw := gw_of (mt_5 _ (List.mem_of_getElem? (i := 166) rfl)) rfl
theorem gw_1127 : Jvm.Cond.methodLink "CoinKeeper$Signatures" (97 : Nat) ({ cls := "CoinKeeper$Signatures", name := "writeDigits", desc := "([J[B)V" } : Jvm.MethodName) ∈ gw := gw_of (mt_5 _ (List.mem_of_getElem? (i := 167) rfl)) rfl
theorem gw_1128 : Jvm.Cond.static ({ cls := "CoinKeeper$Signatures", name := "writeDigits", desc := "([J[B)V" } : Jvm.MethodName) ∈ gw := gw_of (mt_5 _ (List.mem_of_getElem? (i := 168) rfl)) rfl
theorem gw_1129 : Jvm.Cond.code ({ cls := "CoinKeeper$Signatures", name := "writeDigits", desc := "([J[B)V" } : Jvm.MethodName) prog_12_method_7_code (5 : Nat) (Option.none : Option Jvm.ClassFile.FieldType) ∈ gw := gw_of (mt_5 _ (List.mem_of_getElem? (i := 169) rfl)) rfl
theorem gw_1130 : Jvm.Cond.methodLink "CoinKeeper$Signatures" (131 : Nat) ({ cls := "CoinKeeper$Scalar", name := "bits", desc := "([JII)I" } : Jvm.MethodName) ∈ gw := gw_of (mt_5 _ (List.mem_of_getElem? (i := 170) rfl)) rfl
theorem gw_1131 : Jvm.Cond.static ({ cls := "CoinKeeper$Scalar", name := "bits", desc := "([JII)I" } : Jvm.MethodName) ∈ gw := gw_of (mt_5 _ (List.mem_of_getElem? (i := 171) rfl)) rfl
theorem gw_1132 : Jvm.Cond.code ({ cls := "CoinKeeper$Scalar", name := "bits", desc := "([JII)I" } : Jvm.MethodName) prog_10_method_5_code (7 : Nat) (Option.some Jvm.ClassFile.FieldType.int) ∈ gw := gw_of (mt_5 _ (List.mem_of_getElem? (i := 172) rfl)) rfl
theorem gw_1133 : Jvm.Cond.methodLink "CoinKeeper$Signatures" (101 : Nat) ({ cls := "CoinKeeper$Signatures", name := "addUp", desc := "()V" } : Jvm.MethodName) ∈ gw := gw_of (mt_5 _ (List.mem_of_getElem? (i := 173) rfl)) rfl
theorem mw_1134 : Jvm.Cond.privateMethod ({ cls := "CoinKeeper$Signatures", name := "addUp", desc := "()V" } : Jvm.MethodName) ∈ lw_tbl := mt_5 _ (List.mem_of_getElem? (i := 174) rfl)
theorem gw_1135 : Jvm.Cond.instanceMethod ({ cls := "CoinKeeper$Signatures", name := "addUp", desc := "()V" } : Jvm.MethodName) ∈ gw := gw_of (mt_5 _ (List.mem_of_getElem? (i := 175) rfl)) rfl
theorem gw_1136 : Jvm.Cond.code ({ cls := "CoinKeeper$Signatures", name := "addUp", desc := "()V" } : Jvm.MethodName) prog_12_method_8_code (5 : Nat) (Option.none : Option Jvm.ClassFile.FieldType) ∈ gw := gw_of (mt_5 _ (List.mem_of_getElem? (i := 176) rfl)) rfl
theorem gw_1137 : Jvm.Cond.methodLink "CoinKeeper$Signatures" (135 : Nat) ({ cls := "CoinKeeper$Point", name := "become", desc := "(LCoinKeeper$Point;)V" } : Jvm.MethodName) ∈ gw := gw_of (mt_5 _ (List.mem_of_getElem? (i := 177) rfl)) rfl
theorem gw_1138 : Jvm.Cond.instanceMethod ({ cls := "CoinKeeper$Point", name := "become", desc := "(LCoinKeeper$Point;)V" } : Jvm.MethodName) ∈ gw := gw_of (mt_5 _ (List.mem_of_getElem? (i := 178) rfl)) rfl
theorem gw_1139 : Jvm.Cond.selects "CoinKeeper$Point" ({ cls := "CoinKeeper$Point", name := "become", desc := "(LCoinKeeper$Point;)V" } : Jvm.MethodName) ({ cls := "CoinKeeper$Point", name := "become", desc := "(LCoinKeeper$Point;)V" } : Jvm.MethodName) ∈ gw := gw_of (mt_5 _ (List.mem_of_getElem? (i := 179) rfl)) rfl
theorem gw_1140 : Jvm.Cond.code ({ cls := "CoinKeeper$Point", name := "become", desc := "(LCoinKeeper$Point;)V" } : Jvm.MethodName) prog_8_method_4_code (2 : Nat) (Option.none : Option Jvm.ClassFile.FieldType) ∈ gw := gw_of (mt_5 _ (List.mem_of_getElem? (i := 180) rfl)) rfl
theorem gw_1141 : Jvm.Cond.methodLink "CoinKeeper$Point" (35 : Nat) ({ cls := "java/lang/System", name := "arraycopy", desc := "(Ljava/lang/Object;ILjava/lang/Object;II)V" } : Jvm.MethodName) ∈ gw := gw_of (mt_5 _ (List.mem_of_getElem? (i := 181) rfl)) rfl
theorem gw_1142 : Jvm.Cond.methodLink "CoinKeeper$Signatures" (139 : Nat) ({ cls := "CoinKeeper$Curve", name := "makeTwice", desc := "(LCoinKeeper$Point;)V" } : Jvm.MethodName) ∈ gw := gw_of (mt_5 _ (List.mem_of_getElem? (i := 182) rfl)) rfl
theorem gw_1143 : Jvm.Cond.instanceMethod ({ cls := "CoinKeeper$Curve", name := "makeTwice", desc := "(LCoinKeeper$Point;)V" } : Jvm.MethodName) ∈ gw := gw_of (mt_5 _ (List.mem_of_getElem? (i := 183) rfl)) rfl
theorem gw_1144 : Jvm.Cond.selects "CoinKeeper$Curve" ({ cls := "CoinKeeper$Curve", name := "makeTwice", desc := "(LCoinKeeper$Point;)V" } : Jvm.MethodName) ({ cls := "CoinKeeper$Curve", name := "makeTwice", desc := "(LCoinKeeper$Point;)V" } : Jvm.MethodName) ∈ gw := gw_of (mt_5 _ (List.mem_of_getElem? (i := 184) rfl)) rfl
theorem gw_1145 : Jvm.Cond.code ({ cls := "CoinKeeper$Curve", name := "makeTwice", desc := "(LCoinKeeper$Point;)V" } : Jvm.MethodName) prog_4_method_8_code (3 : Nat) (Option.none : Option Jvm.ClassFile.FieldType) ∈ gw := gw_of (mt_5 _ (List.mem_of_getElem? (i := 185) rfl)) rfl
theorem gw_1146 : Jvm.Cond.constantLong "CoinKeeper$Curve" (104 : Nat) (3 : Int64) ∈ gw := gw_of (mt_5 _ (List.mem_of_getElem? (i := 186) rfl)) rfl
theorem gw_1147 : Jvm.Cond.constantLong "CoinKeeper$Curve" (106 : Nat) (2 : Int64) ∈ gw := gw_of (mt_5 _ (List.mem_of_getElem? (i := 187) rfl)) rfl
theorem gw_1148 : Jvm.Cond.constantLong "CoinKeeper$Curve" (108 : Nat) (8 : Int64) ∈ gw := gw_of (mt_5 _ (List.mem_of_getElem? (i := 188) rfl)) rfl
theorem gw_1149 : Jvm.Cond.constantLong "CoinKeeper$Curve" (110 : Nat) (4 : Int64) ∈ gw := gw_of (mt_5 _ (List.mem_of_getElem? (i := 189) rfl)) rfl
theorem gw_1150 : Jvm.Cond.methodLink "CoinKeeper$Signatures" (142 : Nat) ({ cls := "CoinKeeper$Curve", name := "add", desc := "(LCoinKeeper$Point;LCoinKeeper$Point;Z)Z" } : Jvm.MethodName) ∈ gw := gw_of (mt_5 _ (List.mem_of_getElem? (i := 190) rfl)) rfl
theorem gw_1151 : Jvm.Cond.instanceMethod ({ cls := "CoinKeeper$Curve", name := "add", desc := "(LCoinKeeper$Point;LCoinKeeper$Point;Z)Z" } : Jvm.MethodName) ∈ gw := gw_of (mt_5 _ (List.mem_of_getElem? (i := 191) rfl)) rfl
theorem gw_1152 : Jvm.Cond.selects "CoinKeeper$Curve" ({ cls := "CoinKeeper$Curve", name := "add", desc := "(LCoinKeeper$Point;LCoinKeeper$Point;Z)Z" } : Jvm.MethodName) ({ cls := "CoinKeeper$Curve", name := "add", desc := "(LCoinKeeper$Point;LCoinKeeper$Point;Z)Z" } : Jvm.MethodName) ∈ gw := gw_of (mt_5 _ (List.mem_of_getElem? (i := 192) rfl)) rfl
theorem gw_1153 : Jvm.Cond.code ({ cls := "CoinKeeper$Curve", name := "add", desc := "(LCoinKeeper$Point;LCoinKeeper$Point;Z)Z" } : Jvm.MethodName) prog_4_method_9_code (5 : Nat) (Option.some Jvm.ClassFile.FieldType.boolean) ∈ gw := gw_of (mt_5 _ (List.mem_of_getElem? (i := 193) rfl)) rfl
theorem gw_1154 : Jvm.Cond.methodLink "CoinKeeper$Curve" (115 : Nat) ({ cls := "CoinKeeper$Point", name := "become", desc := "(LCoinKeeper$Point;)V" } : Jvm.MethodName) ∈ gw := gw_of (mt_5 _ (List.mem_of_getElem? (i := 194) rfl)) rfl
theorem gw_1155 : Jvm.Cond.methodLink "CoinKeeper$Signatures" (150 : Nat) ({ cls := "java/lang/Math", name := "abs", desc := "(I)I" } : Jvm.MethodName) ∈ gw := gw_of (mt_5 _ (List.mem_of_getElem? (i := 195) rfl)) rfl
theorem gw_1156 : Jvm.Cond.static ({ cls := "java/lang/Math", name := "abs", desc := "(I)I" } : Jvm.MethodName) ∈ gw := gw_of (mt_5 _ (List.mem_of_getElem? (i := 196) rfl)) rfl
theorem gw_1157 : Jvm.Cond.code ({ cls := "java/lang/Math", name := "abs", desc := "(I)I" } : Jvm.MethodName) prog_22_method_59_code (1 : Nat) (Option.some Jvm.ClassFile.FieldType.int) ∈ gw := gw_of (mt_5 _ (List.mem_of_getElem? (i := 197) rfl)) rfl
theorem gw_1158 : Jvm.Cond.methodLink "CoinKeeper$Signatures" (104 : Nat) ({ cls := "CoinKeeper$Signatures", name := "sumIsRight", desc := "()Z" } : Jvm.MethodName) ∈ gw := gw_of (mt_5 _ (List.mem_of_getElem? (i := 198) rfl)) rfl
theorem mw_1159 : Jvm.Cond.privateMethod ({ cls := "CoinKeeper$Signatures", name := "sumIsRight", desc := "()Z" } : Jvm.MethodName) ∈ lw_tbl := mt_5 _ (List.mem_of_getElem? (i := 199) rfl)
theorem gw_1160 : Jvm.Cond.instanceMethod ({ cls := "CoinKeeper$Signatures", name := "sumIsRight", desc := "()Z" } : Jvm.MethodName) ∈ gw := gw_of (mt_5 _ (List.mem_of_getElem? (i := 200) rfl)) rfl
theorem gw_1161 : Jvm.Cond.code ({ cls := "CoinKeeper$Signatures", name := "sumIsRight", desc := "()Z" } : Jvm.MethodName) prog_12_method_9_code (1 : Nat) (Option.some Jvm.ClassFile.FieldType.boolean) ∈ gw := gw_of (mt_5 _ (List.mem_of_getElem? (i := 201) rfl)) rfl
theorem gw_1162 : Jvm.Cond.methodLink "CoinKeeper$Signatures" (156 : Nat) ({ cls := "CoinKeeper$Curve", name := "hasX", desc := "(LCoinKeeper$Point;[J)Z" } : Jvm.MethodName) ∈ gw := gw_of (mt_5 _ (List.mem_of_getElem? (i := 202) rfl)) rfl
theorem gw_1163 : Jvm.Cond.instanceMethod ({ cls := "CoinKeeper$Curve", name := "hasX", desc := "(LCoinKeeper$Point;[J)Z" } : Jvm.MethodName) ∈ gw := gw_of (mt_5 _ (List.mem_of_getElem? (i := 203) rfl)) rfl
theorem gw_1164 : Jvm.Cond.selects "CoinKeeper$Curve" ({ cls := "CoinKeeper$Curve", name := "hasX", desc := "(LCoinKeeper$Point;[J)Z" } : Jvm.MethodName) ({ cls := "CoinKeeper$Curve", name := "hasX", desc := "(LCoinKeeper$Point;[J)Z" } : Jvm.MethodName) ∈ gw := gw_of (mt_5 _ (List.mem_of_getElem? (i := 204) rfl)) rfl
theorem gw_1165 : Jvm.Cond.code ({ cls := "CoinKeeper$Curve", name := "hasX", desc := "(LCoinKeeper$Point;[J)Z" } : Jvm.MethodName) prog_4_method_7_code (4 : Nat) (Option.some Jvm.ClassFile.FieldType.boolean) ∈ gw := gw_of (mt_5 _ (List.mem_of_getElem? (i := 205) rfl)) rfl
theorem gw_1166 : Jvm.Cond.methodLink "CoinKeeper$Signatures" (160 : Nat) ({ cls := "CoinKeeper$Scalar", name := "add", desc := "([J[J)V" } : Jvm.MethodName) ∈ gw := gw_of (mt_5 _ (List.mem_of_getElem? (i := 206) rfl)) rfl
theorem gw_1167 : Jvm.Cond.fieldLink "CoinKeeper$Signatures" (162 : Nat) "CoinKeeper$Scalar" "PRIME" "[J" ∈ gw := gw_of (mt_5 _ (List.mem_of_getElem? (i := 207) rfl)) rfl
theorem gw_1168 : Jvm.Cond.methodLink "CoinKeeper$Machine" (129 : Nat) ({ cls := "CoinKeeper$Machine", name := "verifyTop", desc := "()Z" } : Jvm.MethodName) ∈ gw := gw_of (mt_5 _ (List.mem_of_getElem? (i := 208) rfl)) rfl
theorem mw_1169 : Jvm.Cond.privateMethod ({ cls := "CoinKeeper$Machine", name := "verifyTop", desc := "()Z" } : Jvm.MethodName) ∈ lw_tbl := mt_5 _ (List.mem_of_getElem? (i := 209) rfl)
theorem gw_1170 : Jvm.Cond.instanceMethod ({ cls := "CoinKeeper$Machine", name := "verifyTop", desc := "()Z" } : Jvm.MethodName) ∈ gw := gw_of (mt_5 _ (List.mem_of_getElem? (i := 210) rfl)) rfl
theorem gw_1171 : Jvm.Cond.code ({ cls := "CoinKeeper$Machine", name := "verifyTop", desc := "()Z" } : Jvm.MethodName) prog_7_method_17_code (1 : Nat) (Option.some Jvm.ClassFile.FieldType.boolean) ∈ gw := gw_of (mt_5 _ (List.mem_of_getElem? (i := 211) rfl)) rfl
theorem gw_1172 : Jvm.Cond.methodLink "CoinKeeper$Machine" (105 : Nat) ({ cls := "CoinKeeper$Machine", name := "checkOne", desc := "(I)Z" } : Jvm.MethodName) ∈ gw := gw_of (mt_5 _ (List.mem_of_getElem? (i := 212) rfl)) rfl
theorem mw_1173 : Jvm.Cond.privateMethod ({ cls := "CoinKeeper$Machine", name := "checkOne", desc := "(I)Z" } : Jvm.MethodName) ∈ lw_tbl := mt_5 _ (List.mem_of_getElem? (i := 213) rfl)
theorem gw_1174 : Jvm.Cond.instanceMethod ({ cls := "CoinKeeper$Machine", name := "checkOne", desc := "(I)Z" } : Jvm.MethodName) ∈ gw := gw_of (mt_5 _ (List.mem_of_getElem? (i := 214) rfl)) rfl
theorem gw_1175 : Jvm.Cond.code ({ cls := "CoinKeeper$Machine", name := "checkOne", desc := "(I)Z" } : Jvm.MethodName) prog_7_method_29_code (5 : Nat) (Option.some Jvm.ClassFile.FieldType.boolean) ∈ gw := gw_of (mt_5 _ (List.mem_of_getElem? (i := 215) rfl)) rfl
theorem gw_1176 : Jvm.Cond.methodLink "CoinKeeper$Machine" (108 : Nat) ({ cls := "CoinKeeper$Machine", name := "perform", desc := "(I)Z" } : Jvm.MethodName) ∈ gw := gw_of (mt_5 _ (List.mem_of_getElem? (i := 216) rfl)) rfl
theorem mw_1177 : Jvm.Cond.privateMethod ({ cls := "CoinKeeper$Machine", name := "perform", desc := "(I)Z" } : Jvm.MethodName) ∈ lw_tbl := mt_5 _ (List.mem_of_getElem? (i := 217) rfl)
theorem gw_1178 : Jvm.Cond.instanceMethod ({ cls := "CoinKeeper$Machine", name := "perform", desc := "(I)Z" } : Jvm.MethodName) ∈ gw := gw_of (mt_5 _ (List.mem_of_getElem? (i := 218) rfl)) rfl
theorem gw_1179 : Jvm.Cond.code ({ cls := "CoinKeeper$Machine", name := "perform", desc := "(I)Z" } : Jvm.MethodName) prog_7_method_15_code (2 : Nat) (Option.some Jvm.ClassFile.FieldType.boolean) ∈ gw := gw_of (mt_5 _ (List.mem_of_getElem? (i := 219) rfl)) rfl
theorem gw_1180 : Jvm.Cond.methodLink "CoinKeeper$Machine" (126 : Nat) ({ cls := "CoinKeeper$Machine", name := "pushSmall", desc := "(I)Z" } : Jvm.MethodName) ∈ gw := gw_of (mt_5 _ (List.mem_of_getElem? (i := 220) rfl)) rfl
theorem mw_1181 : Jvm.Cond.privateMethod ({ cls := "CoinKeeper$Machine", name := "pushSmall", desc := "(I)Z" } : Jvm.MethodName) ∈ lw_tbl := mt_5 _ (List.mem_of_getElem? (i := 221) rfl)
theorem gw_1182 : Jvm.Cond.instanceMethod ({ cls := "CoinKeeper$Machine", name := "pushSmall", desc := "(I)Z" } : Jvm.MethodName) ∈ gw := gw_of (mt_5 _ (List.mem_of_getElem? (i := 222) rfl)) rfl
theorem gw_1183 : Jvm.Cond.code ({ cls := "CoinKeeper$Machine", name := "pushSmall", desc := "(I)Z" } : Jvm.MethodName) prog_7_method_16_code (2 : Nat) (Option.some Jvm.ClassFile.FieldType.boolean) ∈ gw := gw_of (mt_5 _ (List.mem_of_getElem? (i := 223) rfl)) rfl
theorem gw_1184 : Jvm.Cond.methodLink "CoinKeeper$Machine" (133 : Nat) ({ cls := "CoinKeeper$Machine", name := "toOther", desc := "()Z" } : Jvm.MethodName) ∈ gw := gw_of (mt_5 _ (List.mem_of_getElem? (i := 224) rfl)) rfl
theorem mw_1185 : Jvm.Cond.privateMethod ({ cls := "CoinKeeper$Machine", name := "toOther", desc := "()Z" } : Jvm.MethodName) ∈ lw_tbl := mt_5 _ (List.mem_of_getElem? (i := 225) rfl)
theorem gw_1186 : Jvm.Cond.instanceMethod ({ cls := "CoinKeeper$Machine", name := "toOther", desc := "()Z" } : Jvm.MethodName) ∈ gw := gw_of (mt_5 _ (List.mem_of_getElem? (i := 226) rfl)) rfl
theorem gw_1187 : Jvm.Cond.code ({ cls := "CoinKeeper$Machine", name := "toOther", desc := "()Z" } : Jvm.MethodName) prog_7_method_20_code (1 : Nat) (Option.some Jvm.ClassFile.FieldType.boolean) ∈ gw := gw_of (mt_5 _ (List.mem_of_getElem? (i := 227) rfl)) rfl
theorem gw_1188 : Jvm.Cond.methodLink "CoinKeeper$Machine" (136 : Nat) ({ cls := "CoinKeeper$Machine", name := "fromOther", desc := "()Z" } : Jvm.MethodName) ∈ gw := gw_of (mt_5 _ (List.mem_of_getElem? (i := 228) rfl)) rfl
theorem mw_1189 : Jvm.Cond.privateMethod ({ cls := "CoinKeeper$Machine", name := "fromOther", desc := "()Z" } : Jvm.MethodName) ∈ lw_tbl := mt_5 _ (List.mem_of_getElem? (i := 229) rfl)
theorem gw_1190 : Jvm.Cond.instanceMethod ({ cls := "CoinKeeper$Machine", name := "fromOther", desc := "()Z" } : Jvm.MethodName) ∈ gw := gw_of (mt_5 _ (List.mem_of_getElem? (i := 230) rfl)) rfl
theorem gw_1191 : Jvm.Cond.code ({ cls := "CoinKeeper$Machine", name := "fromOther", desc := "()Z" } : Jvm.MethodName) prog_7_method_21_code (1 : Nat) (Option.some Jvm.ClassFile.FieldType.boolean) ∈ gw := gw_of (mt_5 _ (List.mem_of_getElem? (i := 231) rfl)) rfl
theorem gw_1192 : Jvm.Cond.methodLink "CoinKeeper$Machine" (139 : Nat) ({ cls := "CoinKeeper$Machine", name := "arrange", desc := "(I)Z" } : Jvm.MethodName) ∈ gw := gw_of (mt_5 _ (List.mem_of_getElem? (i := 232) rfl)) rfl
theorem mw_1193 : Jvm.Cond.privateMethod ({ cls := "CoinKeeper$Machine", name := "arrange", desc := "(I)Z" } : Jvm.MethodName) ∈ lw_tbl := mt_5 _ (List.mem_of_getElem? (i := 233) rfl)
theorem gw_1194 : Jvm.Cond.instanceMethod ({ cls := "CoinKeeper$Machine", name := "arrange", desc := "(I)Z" } : Jvm.MethodName) ∈ gw := gw_of (mt_5 _ (List.mem_of_getElem? (i := 234) rfl)) rfl
theorem gw_1195 : Jvm.Cond.code ({ cls := "CoinKeeper$Machine", name := "arrange", desc := "(I)Z" } : Jvm.MethodName) prog_7_method_19_code (4 : Nat) (Option.some Jvm.ClassFile.FieldType.boolean) ∈ gw := gw_of (mt_5 _ (List.mem_of_getElem? (i := 235) rfl)) rfl
theorem gw_1196 : Jvm.Cond.methodLink "CoinKeeper$Machine" (157 : Nat) ({ cls := "CoinKeeper$Machine", name := "neededBy", desc := "(I)I" } : Jvm.MethodName) ∈ gw := gw_of (mt_5 _ (List.mem_of_getElem? (i := 236) rfl)) rfl
theorem gw_1197 : Jvm.Cond.static ({ cls := "CoinKeeper$Machine", name := "neededBy", desc := "(I)I" } : Jvm.MethodName) ∈ gw := gw_of (mt_5 _ (List.mem_of_getElem? (i := 237) rfl)) rfl
theorem gw_1198 : Jvm.Cond.code ({ cls := "CoinKeeper$Machine", name := "neededBy", desc := "(I)I" } : Jvm.MethodName) prog_7_method_18_code (1 : Nat) (Option.some Jvm.ClassFile.FieldType.int) ∈ gw := gw_of (mt_5 _ (List.mem_of_getElem? (i := 238) rfl)) rfl
theorem gw_1199 : Jvm.Cond.methodLink "CoinKeeper$Machine" (160 : Nat) ({ cls := "CoinKeeper$Machine", name := "pushNumber", desc := "(J)V" } : Jvm.MethodName) ∈ gw := gw_of (mt_5 _ (List.mem_of_getElem? (i := 239) rfl)) rfl
theorem mw_1200 : Jvm.Cond.privateMethod ({ cls := "CoinKeeper$Machine", name := "pushNumber", desc := "(J)V" } : Jvm.MethodName) ∈ lw_tbl := mt_6 _ (List.mem_of_getElem? (i := 0) rfl)
theorem gw_1201 : Jvm.Cond.instanceMethod ({ cls := "CoinKeeper$Machine", name := "pushNumber", desc := "(J)V" } : Jvm.MethodName) ∈ gw := gw_of (mt_6 _ (List.mem_of_getElem? (i := 1) rfl)) rfl
theorem gw_1202 : Jvm.Cond.code ({ cls := "CoinKeeper$Machine", name := "pushNumber", desc := "(J)V" } : Jvm.MethodName) prog_7_method_8_code (6 : Nat) (Option.none : Option Jvm.ClassFile.FieldType) ∈ gw := gw_of (mt_6 _ (List.mem_of_getElem? (i := 2) rfl)) rfl
theorem gw_1203 : Jvm.Cond.methodLink "CoinKeeper$Machine" (111 : Nat) ({ cls := "java/lang/Math", name := "abs", desc := "(J)J" } : Jvm.MethodName) ∈ gw := gw_of (mt_6 _ (List.mem_of_getElem? (i := 3) rfl)) rfl
theorem gw_1204 : Jvm.Cond.static ({ cls := "java/lang/Math", name := "abs", desc := "(J)J" } : Jvm.MethodName) ∈ gw := gw_of (mt_6 _ (List.mem_of_getElem? (i := 4) rfl)) rfl
theorem gw_1205 : Jvm.Cond.code ({ cls := "java/lang/Math", name := "abs", desc := "(J)J" } : Jvm.MethodName) prog_22_method_61_code (2 : Nat) (Option.some Jvm.ClassFile.FieldType.long) ∈ gw := gw_of (mt_6 _ (List.mem_of_getElem? (i := 5) rfl)) rfl
theorem gw_1206 : Jvm.Cond.methodLink "CoinKeeper$Machine" (164 : Nat) ({ cls := "CoinKeeper$Machine", name := "fetch", desc := "(I)Z" } : Jvm.MethodName) ∈ gw := gw_of (mt_6 _ (List.mem_of_getElem? (i := 6) rfl)) rfl
theorem mw_1207 : Jvm.Cond.privateMethod ({ cls := "CoinKeeper$Machine", name := "fetch", desc := "(I)Z" } : Jvm.MethodName) ∈ lw_tbl := mt_6 _ (List.mem_of_getElem? (i := 7) rfl)
theorem gw_1208 : Jvm.Cond.instanceMethod ({ cls := "CoinKeeper$Machine", name := "fetch", desc := "(I)Z" } : Jvm.MethodName) ∈ gw := gw_of (mt_6 _ (List.mem_of_getElem? (i := 8) rfl)) rfl
theorem gw_1209 : Jvm.Cond.code ({ cls := "CoinKeeper$Machine", name := "fetch", desc := "(I)Z" } : Jvm.MethodName) prog_7_method_22_code (5 : Nat) (Option.some Jvm.ClassFile.FieldType.boolean) ∈ gw := gw_of (mt_6 _ (List.mem_of_getElem? (i := 9) rfl)) rfl
theorem gw_1210 : Jvm.Cond.methodLink "CoinKeeper$Machine" (142 : Nat) ({ cls := "CoinKeeper$Machine", name := "compareTop", desc := "(I)Z" } : Jvm.MethodName) ∈ gw := gw_of (mt_6 _ (List.mem_of_getElem? (i := 10) rfl)) rfl
theorem mw_1211 : Jvm.Cond.privateMethod ({ cls := "CoinKeeper$Machine", name := "compareTop", desc := "(I)Z" } : Jvm.MethodName) ∈ lw_tbl := mt_6 _ (List.mem_of_getElem? (i := 11) rfl)
theorem gw_1212 : Jvm.Cond.instanceMethod ({ cls := "CoinKeeper$Machine", name := "compareTop", desc := "(I)Z" } : Jvm.MethodName) ∈ gw := gw_of (mt_6 _ (List.mem_of_getElem? (i := 12) rfl)) rfl
theorem gw_1213 : Jvm.Cond.code ({ cls := "CoinKeeper$Machine", name := "compareTop", desc := "(I)Z" } : Jvm.MethodName) prog_7_method_23_code (4 : Nat) (Option.some Jvm.ClassFile.FieldType.boolean) ∈ gw := gw_of (mt_6 _ (List.mem_of_getElem? (i := 13) rfl)) rfl
theorem mw_1214 : Jvm.Cond.methodLinkNest "CoinKeeper$Machine" (174 : Nat) ({ cls := "CoinKeeper", name := "same", desc := "([BI[BII)Z" } : Jvm.MethodName) "CoinKeeper" ∈ lw_tbl := mt_6 _ (List.mem_of_getElem? (i := 14) rfl)
theorem gw_1215 : Jvm.Cond.methodLink "CoinKeeper$Machine" (145 : Nat) ({ cls := "CoinKeeper$Machine", name := "changeNumber", desc := "(I)Z" } : Jvm.MethodName) ∈ gw := gw_of (mt_6 _ (List.mem_of_getElem? (i := 15) rfl)) rfl
theorem mw_1216 : Jvm.Cond.privateMethod ({ cls := "CoinKeeper$Machine", name := "changeNumber", desc := "(I)Z" } : Jvm.MethodName) ∈ lw_tbl := mt_6 _ (List.mem_of_getElem? (i := 16) rfl)
theorem gw_1217 : Jvm.Cond.instanceMethod ({ cls := "CoinKeeper$Machine", name := "changeNumber", desc := "(I)Z" } : Jvm.MethodName) ∈ gw := gw_of (mt_6 _ (List.mem_of_getElem? (i := 17) rfl)) rfl
theorem gw_1218 : Jvm.Cond.code ({ cls := "CoinKeeper$Machine", name := "changeNumber", desc := "(I)Z" } : Jvm.MethodName) prog_7_method_24_code (4 : Nat) (Option.some Jvm.ClassFile.FieldType.boolean) ∈ gw := gw_of (mt_6 _ (List.mem_of_getElem? (i := 18) rfl)) rfl
theorem gw_1219 : Jvm.Cond.methodLink "CoinKeeper$Machine" (148 : Nat) ({ cls := "CoinKeeper$Machine", name := "joinNumbers", desc := "(I)Z" } : Jvm.MethodName) ∈ gw := gw_of (mt_6 _ (List.mem_of_getElem? (i := 19) rfl)) rfl
theorem mw_1220 : Jvm.Cond.privateMethod ({ cls := "CoinKeeper$Machine", name := "joinNumbers", desc := "(I)Z" } : Jvm.MethodName) ∈ lw_tbl := mt_6 _ (List.mem_of_getElem? (i := 20) rfl)
theorem gw_1221 : Jvm.Cond.instanceMethod ({ cls := "CoinKeeper$Machine", name := "joinNumbers", desc := "(I)Z" } : Jvm.MethodName) ∈ gw := gw_of (mt_6 _ (List.mem_of_getElem? (i := 21) rfl)) rfl
theorem gw_1222 : Jvm.Cond.code ({ cls := "CoinKeeper$Machine", name := "joinNumbers", desc := "(I)Z" } : Jvm.MethodName) prog_7_method_25_code (6 : Nat) (Option.some Jvm.ClassFile.FieldType.boolean) ∈ gw := gw_of (mt_6 _ (List.mem_of_getElem? (i := 22) rfl)) rfl
theorem gw_1223 : Jvm.Cond.methodLink "CoinKeeper$Machine" (178 : Nat) ({ cls := "java/lang/Math", name := "min", desc := "(JJ)J" } : Jvm.MethodName) ∈ gw := gw_of (mt_6 _ (List.mem_of_getElem? (i := 23) rfl)) rfl
theorem gw_1224 : Jvm.Cond.methodLink "CoinKeeper$Machine" (182 : Nat) ({ cls := "java/lang/Math", name := "max", desc := "(JJ)J" } : Jvm.MethodName) ∈ gw := gw_of (mt_6 _ (List.mem_of_getElem? (i := 24) rfl)) rfl
theorem gw_1225 : Jvm.Cond.methodLink "CoinKeeper$Machine" (185 : Nat) ({ cls := "CoinKeeper$Machine", name := "holds", desc := "(IJJ)Z" } : Jvm.MethodName) ∈ gw := gw_of (mt_6 _ (List.mem_of_getElem? (i := 25) rfl)) rfl
theorem gw_1226 : Jvm.Cond.static ({ cls := "CoinKeeper$Machine", name := "holds", desc := "(IJJ)Z" } : Jvm.MethodName) ∈ gw := gw_of (mt_6 _ (List.mem_of_getElem? (i := 26) rfl)) rfl
theorem gw_1227 : Jvm.Cond.code ({ cls := "CoinKeeper$Machine", name := "holds", desc := "(IJJ)Z" } : Jvm.MethodName) prog_7_method_26_code (5 : Nat) (Option.some Jvm.ClassFile.FieldType.boolean) ∈ gw := gw_of (mt_6 _ (List.mem_of_getElem? (i := 27) rfl)) rfl
theorem gw_1228 : Jvm.Cond.methodLink "CoinKeeper$Machine" (151 : Nat) ({ cls := "CoinKeeper$Machine", name := "within", desc := "()Z" } : Jvm.MethodName) ∈ gw := gw_of (mt_6 _ (List.mem_of_getElem? (i := 28) rfl)) rfl
theorem mw_1229 : Jvm.Cond.privateMethod ({ cls := "CoinKeeper$Machine", name := "within", desc := "()Z" } : Jvm.MethodName) ∈ lw_tbl := mt_6 _ (List.mem_of_getElem? (i := 29) rfl)
theorem gw_1230 : Jvm.Cond.instanceMethod ({ cls := "CoinKeeper$Machine", name := "within", desc := "()Z" } : Jvm.MethodName) ∈ gw := gw_of (mt_6 _ (List.mem_of_getElem? (i := 30) rfl)) rfl
theorem gw_1231 : Jvm.Cond.code ({ cls := "CoinKeeper$Machine", name := "within", desc := "()Z" } : Jvm.MethodName) prog_7_method_27_code (3 : Nat) (Option.some Jvm.ClassFile.FieldType.boolean) ∈ gw := gw_of (mt_6 _ (List.mem_of_getElem? (i := 31) rfl)) rfl
theorem gw_1232 : Jvm.Cond.methodLink "CoinKeeper$Machine" (154 : Nat) ({ cls := "CoinKeeper$Machine", name := "digestTop", desc := "(I)Z" } : Jvm.MethodName) ∈ gw := gw_of (mt_6 _ (List.mem_of_getElem? (i := 32) rfl)) rfl
theorem mw_1233 : Jvm.Cond.privateMethod ({ cls := "CoinKeeper$Machine", name := "digestTop", desc := "(I)Z" } : Jvm.MethodName) ∈ lw_tbl := mt_6 _ (List.mem_of_getElem? (i := 33) rfl)
theorem gw_1234 : Jvm.Cond.instanceMethod ({ cls := "CoinKeeper$Machine", name := "digestTop", desc := "(I)Z" } : Jvm.MethodName) ∈ gw := gw_of (mt_6 _ (List.mem_of_getElem? (i := 34) rfl)) rfl
theorem gw_1235 : Jvm.Cond.code ({ cls := "CoinKeeper$Machine", name := "digestTop", desc := "(I)Z" } : Jvm.MethodName) prog_7_method_28_code (5 : Nat) (Option.some Jvm.ClassFile.FieldType.boolean) ∈ gw := gw_of (mt_6 _ (List.mem_of_getElem? (i := 35) rfl)) rfl
theorem gw_1236 : Jvm.Cond.methodLink "CoinKeeper$Machine" (189 : Nat) ({ cls := "CoinKeeper$Ripemd160", name := "once", desc := "([BII[BI)V" } : Jvm.MethodName) ∈ gw := gw_of (mt_6 _ (List.mem_of_getElem? (i := 36) rfl)) rfl
theorem gw_1237 : Jvm.Cond.instanceMethod ({ cls := "CoinKeeper$Ripemd160", name := "once", desc := "([BII[BI)V" } : Jvm.MethodName) ∈ gw := gw_of (mt_6 _ (List.mem_of_getElem? (i := 37) rfl)) rfl
theorem gw_1238 : Jvm.Cond.selects "CoinKeeper$Ripemd160" ({ cls := "CoinKeeper$Ripemd160", name := "once", desc := "([BII[BI)V" } : Jvm.MethodName) ({ cls := "CoinKeeper$Ripemd160", name := "once", desc := "([BII[BI)V" } : Jvm.MethodName) ∈ gw := gw_of (mt_6 _ (List.mem_of_getElem? (i := 38) rfl)) rfl
theorem gw_1239 : Jvm.Cond.code ({ cls := "CoinKeeper$Ripemd160", name := "once", desc := "([BII[BI)V" } : Jvm.MethodName) prog_9_method_2_code (9 : Nat) (Option.none : Option Jvm.ClassFile.FieldType) ∈ gw := gw_of (mt_6 _ (List.mem_of_getElem? (i := 39) rfl)) rfl
theorem gw_1240 : Jvm.Cond.fieldLink "CoinKeeper$Ripemd160" (22 : Nat) "CoinKeeper$Ripemd160" "START" "[I" ∈ gw := gw_of (mt_6 _ (List.mem_of_getElem? (i := 40) rfl)) rfl
theorem mw_1241 : Jvm.Cond.laysStatic "CoinKeeper$Ripemd160" "START" "[I" ∈ lw_tbl := mt_6 _ (List.mem_of_getElem? (i := 41) rfl)
theorem gw_1242 : Jvm.Cond.methodLink "CoinKeeper$Ripemd160" (25 : Nat) ({ cls := "java/lang/System", name := "arraycopy", desc := "(Ljava/lang/Object;ILjava/lang/Object;II)V" } : Jvm.MethodName) ∈ gw := gw_of (mt_6 _ (List.mem_of_getElem? (i := 42) rfl)) rfl
theorem gw_1243 : Jvm.Cond.methodLink "CoinKeeper$Ripemd160" (31 : Nat) ({ cls := "CoinKeeper$Ripemd160", name := "spread", desc := "([BIII)V" } : Jvm.MethodName) ∈ gw := gw_of (mt_6 _ (List.mem_of_getElem? (i := 43) rfl)) rfl
theorem mw_1244 : Jvm.Cond.privateMethod ({ cls := "CoinKeeper$Ripemd160", name := "spread", desc := "([BIII)V" } : Jvm.MethodName) ∈ lw_tbl := mt_6 _ (List.mem_of_getElem? (i := 44) rfl)
theorem gw_1245 : Jvm.Cond.instanceMethod ({ cls := "CoinKeeper$Ripemd160", name := "spread", desc := "([BIII)V" } : Jvm.MethodName) ∈ gw := gw_of (mt_6 _ (List.mem_of_getElem? (i := 45) rfl)) rfl
theorem gw_1246 : Jvm.Cond.code ({ cls := "CoinKeeper$Ripemd160", name := "spread", desc := "([BIII)V" } : Jvm.MethodName) prog_9_method_3_code (8 : Nat) (Option.none : Option Jvm.ClassFile.FieldType) ∈ gw := gw_of (mt_6 _ (List.mem_of_getElem? (i := 46) rfl)) rfl
theorem gw_1247 : Jvm.Cond.fieldLink "CoinKeeper$Ripemd160" (35 : Nat) "CoinKeeper$Ripemd160" "LEFT_WORD" "[B" ∈ gw := gw_of (mt_6 _ (List.mem_of_getElem? (i := 47) rfl)) rfl
theorem mw_1248 : Jvm.Cond.laysStatic "CoinKeeper$Ripemd160" "LEFT_WORD" "[B" ∈ lw_tbl := mt_6 _ (List.mem_of_getElem? (i := 48) rfl)
theorem gw_1249 : Jvm.Cond.fieldLink "CoinKeeper$Ripemd160" (39 : Nat) "CoinKeeper$Ripemd160" "LEFT_TURN" "[B" ∈ gw := gw_of (mt_6 _ (List.mem_of_getElem? (i := 49) rfl)) rfl
theorem mw_1250 : Jvm.Cond.laysStatic "CoinKeeper$Ripemd160" "LEFT_TURN" "[B" ∈ lw_tbl := mt_6 _ (List.mem_of_getElem? (i := 50) rfl)
theorem gw_1251 : Jvm.Cond.fieldLink "CoinKeeper$Ripemd160" (42 : Nat) "CoinKeeper$Ripemd160" "LEFT_K" "[I" ∈ gw := gw_of (mt_6 _ (List.mem_of_getElem? (i := 51) rfl)) rfl
theorem mw_1252 : Jvm.Cond.laysStatic "CoinKeeper$Ripemd160" "LEFT_K" "[I" ∈ lw_tbl := mt_6 _ (List.mem_of_getElem? (i := 52) rfl)
theorem gw_1253 : Jvm.Cond.methodLink "CoinKeeper$Ripemd160" (45 : Nat) ({ cls := "CoinKeeper$Ripemd160", name := "turn", desc := "([I[B[B[II)V" } : Jvm.MethodName) ∈ gw := gw_of (mt_6 _ (List.mem_of_getElem? (i := 53) rfl)) rfl
theorem mw_1254 : Jvm.Cond.privateMethod ({ cls := "CoinKeeper$Ripemd160", name := "turn", desc := "([I[B[B[II)V" } : Jvm.MethodName) ∈ lw_tbl := mt_6 _ (List.mem_of_getElem? (i := 54) rfl)
theorem gw_1255 : Jvm.Cond.instanceMethod ({ cls := "CoinKeeper$Ripemd160", name := "turn", desc := "([I[B[B[II)V" } : Jvm.MethodName) ∈ gw := gw_of (mt_6 _ (List.mem_of_getElem? (i := 55) rfl)) rfl
theorem gw_1256 : Jvm.Cond.code ({ cls := "CoinKeeper$Ripemd160", name := "turn", desc := "([I[B[B[II)V" } : Jvm.MethodName) prog_9_method_4_code (15 : Nat) (Option.none : Option Jvm.ClassFile.FieldType) ∈ gw := gw_of (mt_6 _ (List.mem_of_getElem? (i := 56) rfl)) rfl
theorem gw_1257 : Jvm.Cond.methodLink "CoinKeeper$Ripemd160" (58 : Nat) ({ cls := "java/lang/Math", name := "abs", desc := "(I)I" } : Jvm.MethodName) ∈ gw := gw_of (mt_6 _ (List.mem_of_getElem? (i := 57) rfl)) rfl
theorem gw_1258 : Jvm.Cond.methodLink "CoinKeeper$Ripemd160" (64 : Nat) ({ cls := "CoinKeeper$Ripemd160", name := "mixed", desc := "(IIII)I" } : Jvm.MethodName) ∈ gw := gw_of (mt_6 _ (List.mem_of_getElem? (i := 58) rfl)) rfl
theorem gw_1259 : Jvm.Cond.static ({ cls := "CoinKeeper$Ripemd160", name := "mixed", desc := "(IIII)I" } : Jvm.MethodName) ∈ gw := gw_of (mt_6 _ (List.mem_of_getElem? (i := 59) rfl)) rfl
theorem gw_1260 : Jvm.Cond.code ({ cls := "CoinKeeper$Ripemd160", name := "mixed", desc := "(IIII)I" } : Jvm.MethodName) prog_9_method_5_code (4 : Nat) (Option.some Jvm.ClassFile.FieldType.int) ∈ gw := gw_of (mt_6 _ (List.mem_of_getElem? (i := 60) rfl)) rfl
theorem gw_1261 : Jvm.Cond.fieldLink "CoinKeeper$Ripemd160" (49 : Nat) "CoinKeeper$Ripemd160" "RIGHT_WORD" "[B" ∈ gw := gw_of (mt_6 _ (List.mem_of_getElem? (i := 61) rfl)) rfl
theorem mw_1262 : Jvm.Cond.laysStatic "CoinKeeper$Ripemd160" "RIGHT_WORD" "[B" ∈ lw_tbl := mt_6 _ (List.mem_of_getElem? (i := 62) rfl)
theorem gw_1263 : Jvm.Cond.fieldLink "CoinKeeper$Ripemd160" (52 : Nat) "CoinKeeper$Ripemd160" "RIGHT_TURN" "[B" ∈ gw := gw_of (mt_6 _ (List.mem_of_getElem? (i := 63) rfl)) rfl
theorem mw_1264 : Jvm.Cond.laysStatic "CoinKeeper$Ripemd160" "RIGHT_TURN" "[B" ∈ lw_tbl := mt_6 _ (List.mem_of_getElem? (i := 64) rfl)
theorem gw_1265 : Jvm.Cond.fieldLink "CoinKeeper$Ripemd160" (55 : Nat) "CoinKeeper$Ripemd160" "RIGHT_K" "[I" ∈ gw := gw_of (mt_6 _ (List.mem_of_getElem? (i := 65) rfl)) rfl
theorem mw_1266 : Jvm.Cond.laysStatic "CoinKeeper$Ripemd160" "RIGHT_K" "[I" ∈ lw_tbl := mt_6 _ (List.mem_of_getElem? (i := 66) rfl)
theorem gw_1267 : Jvm.Cond.methodLink "CoinKeeper$Machine" (193 : Nat) ({ cls := "CoinKeeper$Sha256", name := "once", desc := "([BII[BI)V" } : Jvm.MethodName) ∈ gw := gw_of (mt_6 _ (List.mem_of_getElem? (i := 67) rfl)) rfl
theorem gw_1268 : Jvm.Cond.methodLink "CoinKeeper" (159 : Nat) ({ cls := "CoinKeeper$Machine", name := "endsTrue", desc := "()Z" } : Jvm.MethodName) ∈ gw := gw_of (mt_6 _ (List.mem_of_getElem? (i := 68) rfl)) rfl
theorem gw_1269 : Jvm.Cond.instanceMethod ({ cls := "CoinKeeper$Machine", name := "endsTrue", desc := "()Z" } : Jvm.MethodName) ∈ gw := gw_of (mt_6 _ (List.mem_of_getElem? (i := 69) rfl)) rfl
theorem gw_1270 : Jvm.Cond.selects "CoinKeeper$Machine" ({ cls := "CoinKeeper$Machine", name := "endsTrue", desc := "()Z" } : Jvm.MethodName) ({ cls := "CoinKeeper$Machine", name := "endsTrue", desc := "()Z" } : Jvm.MethodName) ∈ gw := gw_of (mt_6 _ (List.mem_of_getElem? (i := 70) rfl)) rfl
theorem gw_1271 : Jvm.Cond.code ({ cls := "CoinKeeper$Machine", name := "endsTrue", desc := "()Z" } : Jvm.MethodName) prog_7_method_5_code (1 : Nat) (Option.some Jvm.ClassFile.FieldType.boolean) ∈ gw := gw_of (mt_6 _ (List.mem_of_getElem? (i := 71) rfl)) rfl
theorem gw_1272 : Jvm.Cond.methodLink "CoinKeeper" (141 : Nat) ({ cls := "CoinKeeper", name := "spoil", desc := "(LCoinKeeper$Block;)V" } : Jvm.MethodName) ∈ gw := gw_of (mt_6 _ (List.mem_of_getElem? (i := 72) rfl)) rfl
theorem mw_1273 : Jvm.Cond.privateMethod ({ cls := "CoinKeeper", name := "spoil", desc := "(LCoinKeeper$Block;)V" } : Jvm.MethodName) ∈ lw_tbl := mt_6 _ (List.mem_of_getElem? (i := 73) rfl)
theorem gw_1274 : Jvm.Cond.instanceMethod ({ cls := "CoinKeeper", name := "spoil", desc := "(LCoinKeeper$Block;)V" } : Jvm.MethodName) ∈ gw := gw_of (mt_6 _ (List.mem_of_getElem? (i := 74) rfl)) rfl
theorem gw_1275 : Jvm.Cond.code ({ cls := "CoinKeeper", name := "spoil", desc := "(LCoinKeeper$Block;)V" } : Jvm.MethodName) prog_1_method_21_code (4 : Nat) (Option.none : Option Jvm.ClassFile.FieldType) ∈ gw := gw_of (mt_6 _ (List.mem_of_getElem? (i := 75) rfl)) rfl
theorem gw_1276 : Jvm.Cond.methodLink "CoinKeeper" (145 : Nat) ({ cls := "CoinKeeper", name := "comeBack", desc := "(LCoinKeeper$Block;)V" } : Jvm.MethodName) ∈ gw := gw_of (mt_6 _ (List.mem_of_getElem? (i := 76) rfl)) rfl
theorem mw_1277 : Jvm.Cond.privateMethod ({ cls := "CoinKeeper", name := "comeBack", desc := "(LCoinKeeper$Block;)V" } : Jvm.MethodName) ∈ lw_tbl := mt_6 _ (List.mem_of_getElem? (i := 77) rfl)
theorem gw_1278 : Jvm.Cond.instanceMethod ({ cls := "CoinKeeper", name := "comeBack", desc := "(LCoinKeeper$Block;)V" } : Jvm.MethodName) ∈ gw := gw_of (mt_6 _ (List.mem_of_getElem? (i := 78) rfl)) rfl
theorem gw_1279 : Jvm.Cond.code ({ cls := "CoinKeeper", name := "comeBack", desc := "(LCoinKeeper$Block;)V" } : Jvm.MethodName) prog_1_method_22_code (3 : Nat) (Option.none : Option Jvm.ClassFile.FieldType) ∈ gw := gw_of (mt_6 _ (List.mem_of_getElem? (i := 79) rfl)) rfl
theorem gw_1280 : Jvm.Cond.methodLink "CoinKeeperLaw" (68 : Nat) ({ cls := "CoinKeeperLaw", name := "script", desc := "(LCoinKeeper;I[J)I" } : Jvm.MethodName) ∈ gw := gw_of (mt_6 _ (List.mem_of_getElem? (i := 80) rfl)) rfl
theorem gw_1281 : Jvm.Cond.static ({ cls := "CoinKeeperLaw", name := "script", desc := "(LCoinKeeper;I[J)I" } : Jvm.MethodName) ∈ gw := gw_of (mt_6 _ (List.mem_of_getElem? (i := 81) rfl)) rfl
theorem gw_1282 : Jvm.Cond.codeWith ({ cls := "CoinKeeperLaw", name := "script", desc := "(LCoinKeeper;I[J)I" } : Jvm.MethodName) method_6_code (4 : Nat) (Option.some Jvm.ClassFile.FieldType.int) [((0 : Nat), (16 : Nat), (19 : Nat), (19 : Nat))] ∈ gw := gw_of (mt_6 _ (List.mem_of_getElem? (i := 82) rfl)) rfl
theorem gw_1283 : Jvm.Cond.methodLink "CoinKeeperLaw" (25 : Nat) ({ cls := "CoinKeeper", name := "script", desc := "(I)Z" } : Jvm.MethodName) ∈ gw := gw_of (mt_6 _ (List.mem_of_getElem? (i := 83) rfl)) rfl
theorem gw_1284 : Jvm.Cond.instanceMethod ({ cls := "CoinKeeper", name := "script", desc := "(I)Z" } : Jvm.MethodName) ∈ gw := gw_of (mt_6 _ (List.mem_of_getElem? (i := 84) rfl)) rfl
theorem gw_1285 : Jvm.Cond.selects "CoinKeeper" ({ cls := "CoinKeeper", name := "script", desc := "(I)Z" } : Jvm.MethodName) ({ cls := "CoinKeeper", name := "script", desc := "(I)Z" } : Jvm.MethodName) ∈ gw := gw_of (mt_6 _ (List.mem_of_getElem? (i := 85) rfl)) rfl
theorem gw_1286 : Jvm.Cond.code ({ cls := "CoinKeeper", name := "script", desc := "(I)Z" } : Jvm.MethodName) prog_1_method_5_code (2 : Nat) (Option.some Jvm.ClassFile.FieldType.boolean) ∈ gw := gw_of (mt_6 _ (List.mem_of_getElem? (i := 86) rfl)) rfl
theorem gw_1287 : Jvm.Cond.methodLink "CoinKeeper" (152 : Nat) ({ cls := "CoinKeeper$Machine", name := "spendNothing", desc := "()V" } : Jvm.MethodName) ∈ gw := gw_of (mt_6 _ (List.mem_of_getElem? (i := 87) rfl)) rfl
theorem gw_1288 : Jvm.Cond.instanceMethod ({ cls := "CoinKeeper$Machine", name := "spendNothing", desc := "()V" } : Jvm.MethodName) ∈ gw := gw_of (mt_6 _ (List.mem_of_getElem? (i := 88) rfl)) rfl
theorem gw_1289 : Jvm.Cond.selects "CoinKeeper$Machine" ({ cls := "CoinKeeper$Machine", name := "spendNothing", desc := "()V" } : Jvm.MethodName) ({ cls := "CoinKeeper$Machine", name := "spendNothing", desc := "()V" } : Jvm.MethodName) ∈ gw := gw_of (mt_6 _ (List.mem_of_getElem? (i := 89) rfl)) rfl
theorem gw_1290 : Jvm.Cond.code ({ cls := "CoinKeeper$Machine", name := "spendNothing", desc := "()V" } : Jvm.MethodName) prog_7_method_3_code (1 : Nat) (Option.none : Option Jvm.ClassFile.FieldType) ∈ gw := gw_of (mt_6 _ (List.mem_of_getElem? (i := 90) rfl)) rfl
theorem gw_1291 : Jvm.Cond.methodLink "CoinKeeper$Machine" (50 : Nat) ({ cls := "CoinKeeper$Machine", name := "spend", desc := "(LCoinKeeper$Layout;IILCoinKeeper$Coin;)V" } : Jvm.MethodName) ∈ gw := gw_of (mt_6 _ (List.mem_of_getElem? (i := 91) rfl)) rfl
theorem gw_1292 : Jvm.Cond.methodLink "CoinKeeperLaw" (71 : Nat) ({ cls := "CoinKeeperLaw", name := "hash", desc := "(LCoinKeeper;I[J)I" } : Jvm.MethodName) ∈ gw := gw_of (mt_6 _ (List.mem_of_getElem? (i := 92) rfl)) rfl
theorem gw_1293 : Jvm.Cond.static ({ cls := "CoinKeeperLaw", name := "hash", desc := "(LCoinKeeper;I[J)I" } : Jvm.MethodName) ∈ gw := gw_of (mt_6 _ (List.mem_of_getElem? (i := 93) rfl)) rfl
theorem gw_1294 : Jvm.Cond.codeWith ({ cls := "CoinKeeperLaw", name := "hash", desc := "(LCoinKeeper;I[J)I" } : Jvm.MethodName) method_7_code (4 : Nat) (Option.some Jvm.ClassFile.FieldType.int) [((0 : Nat), (9 : Nat), (12 : Nat), (19 : Nat))] ∈ gw := gw_of (mt_6 _ (List.mem_of_getElem? (i := 94) rfl)) rfl
theorem gw_1295 : Jvm.Cond.methodLink "CoinKeeperLaw" (29 : Nat) ({ cls := "CoinKeeper", name := "hash", desc := "(I)I" } : Jvm.MethodName) ∈ gw := gw_of (mt_6 _ (List.mem_of_getElem? (i := 95) rfl)) rfl
theorem gw_1296 : Jvm.Cond.instanceMethod ({ cls := "CoinKeeper", name := "hash", desc := "(I)I" } : Jvm.MethodName) ∈ gw := gw_of (mt_6 _ (List.mem_of_getElem? (i := 96) rfl)) rfl
theorem gw_1297 : Jvm.Cond.selects "CoinKeeper" ({ cls := "CoinKeeper", name := "hash", desc := "(I)I" } : Jvm.MethodName) ({ cls := "CoinKeeper", name := "hash", desc := "(I)I" } : Jvm.MethodName) ∈ gw := gw_of (mt_6 _ (List.mem_of_getElem? (i := 97) rfl)) rfl
theorem gw_1298 : Jvm.Cond.code ({ cls := "CoinKeeper", name := "hash", desc := "(I)I" } : Jvm.MethodName) prog_1_method_6_code (2 : Nat) (Option.some Jvm.ClassFile.FieldType.int) ∈ gw := gw_of (mt_6 _ (List.mem_of_getElem? (i := 98) rfl)) rfl
theorem gw_1299 : Jvm.Cond.methodLink "CoinKeeperLaw" (74 : Nat) ({ cls := "CoinKeeperLaw", name := "tip", desc := "(LCoinKeeper;I[J)I" } : Jvm.MethodName) ∈ gw := gw_of (mt_6 _ (List.mem_of_getElem? (i := 99) rfl)) rfl
theorem gw_1300 : Jvm.Cond.static ({ cls := "CoinKeeperLaw", name := "tip", desc := "(LCoinKeeper;I[J)I" } : Jvm.MethodName) ∈ gw := gw_of (mt_6 _ (List.mem_of_getElem? (i := 100) rfl)) rfl
theorem gw_1301 : Jvm.Cond.codeWith ({ cls := "CoinKeeperLaw", name := "tip", desc := "(LCoinKeeper;I[J)I" } : Jvm.MethodName) method_8_code (4 : Nat) (Option.some Jvm.ClassFile.FieldType.int) [((0 : Nat), (9 : Nat), (12 : Nat), (19 : Nat))] ∈ gw := gw_of (mt_6 _ (List.mem_of_getElem? (i := 101) rfl)) rfl
theorem gw_1302 : Jvm.Cond.methodLink "CoinKeeperLaw" (32 : Nat) ({ cls := "CoinKeeper", name := "tip", desc := "(I)I" } : Jvm.MethodName) ∈ gw := gw_of (mt_6 _ (List.mem_of_getElem? (i := 102) rfl)) rfl
theorem gw_1303 : Jvm.Cond.instanceMethod ({ cls := "CoinKeeper", name := "tip", desc := "(I)I" } : Jvm.MethodName) ∈ gw := gw_of (mt_6 _ (List.mem_of_getElem? (i := 103) rfl)) rfl
theorem gw_1304 : Jvm.Cond.selects "CoinKeeper" ({ cls := "CoinKeeper", name := "tip", desc := "(I)I" } : Jvm.MethodName) ({ cls := "CoinKeeper", name := "tip", desc := "(I)I" } : Jvm.MethodName) ∈ gw := gw_of (mt_6 _ (List.mem_of_getElem? (i := 104) rfl)) rfl
theorem gw_1305 : Jvm.Cond.code ({ cls := "CoinKeeper", name := "tip", desc := "(I)I" } : Jvm.MethodName) prog_1_method_7_code (2 : Nat) (Option.some Jvm.ClassFile.FieldType.int) ∈ gw := gw_of (mt_6 _ (List.mem_of_getElem? (i := 105) rfl)) rfl
theorem gw_1306 : Jvm.Cond.methodLink "CoinKeeperLaw" (77 : Nat) ({ cls := "CoinKeeperLaw", name := "unspent", desc := "(LCoinKeeper;I[J)I" } : Jvm.MethodName) ∈ gw := gw_of (mt_6 _ (List.mem_of_getElem? (i := 106) rfl)) rfl
theorem gw_1307 : Jvm.Cond.static ({ cls := "CoinKeeperLaw", name := "unspent", desc := "(LCoinKeeper;I[J)I" } : Jvm.MethodName) ∈ gw := gw_of (mt_6 _ (List.mem_of_getElem? (i := 107) rfl)) rfl
theorem gw_1308 : Jvm.Cond.codeWith ({ cls := "CoinKeeperLaw", name := "unspent", desc := "(LCoinKeeper;I[J)I" } : Jvm.MethodName) method_9_code (4 : Nat) (Option.some Jvm.ClassFile.FieldType.int) [((0 : Nat), (8 : Nat), (11 : Nat), (19 : Nat)), ((0 : Nat), (8 : Nat), (14 : Nat), (39 : Nat))] ∈ gw := gw_of (mt_6 _ (List.mem_of_getElem? (i := 108) rfl)) rfl
theorem gw_1309 : Jvm.Cond.classLink "CoinKeeperLaw" (39 : Nat) "java/util/NoSuchElementException" ∈ gw := gw_of (mt_6 _ (List.mem_of_getElem? (i := 109) rfl)) rfl
theorem gw_1310 : Jvm.Cond.methodLink "CoinKeeperLaw" (35 : Nat) ({ cls := "CoinKeeper", name := "unspent", desc := "(I)J" } : Jvm.MethodName) ∈ gw := gw_of (mt_6 _ (List.mem_of_getElem? (i := 110) rfl)) rfl
theorem gw_1311 : Jvm.Cond.instanceMethod ({ cls := "CoinKeeper", name := "unspent", desc := "(I)J" } : Jvm.MethodName) ∈ gw := gw_of (mt_6 _ (List.mem_of_getElem? (i := 111) rfl)) rfl
theorem gw_1312 : Jvm.Cond.selects "CoinKeeper" ({ cls := "CoinKeeper", name := "unspent", desc := "(I)J" } : Jvm.MethodName) ({ cls := "CoinKeeper", name := "unspent", desc := "(I)J" } : Jvm.MethodName) ∈ gw := gw_of (mt_6 _ (List.mem_of_getElem? (i := 112) rfl)) rfl
theorem gw_1313 : Jvm.Cond.code ({ cls := "CoinKeeper", name := "unspent", desc := "(I)J" } : Jvm.MethodName) prog_1_method_8_code (3 : Nat) (Option.some Jvm.ClassFile.FieldType.long) ∈ gw := gw_of (mt_6 _ (List.mem_of_getElem? (i := 113) rfl)) rfl
theorem gw_1314 : Jvm.Cond.classLink "CoinKeeper" (184 : Nat) "java/util/NoSuchElementException" ∈ gw := gw_of (mt_6 _ (List.mem_of_getElem? (i := 114) rfl)) rfl
theorem gw_1315 : Jvm.Cond.instantiable "java/util/NoSuchElementException" (6 : Nat) ∈ gw := gw_of (mt_6 _ (List.mem_of_getElem? (i := 115) rfl)) rfl
theorem mw_1316 : Jvm.Cond.castable "java/util/NoSuchElementException" "java/util/NoSuchElementException" ∈ lw_tbl := mt_6 _ (List.mem_of_getElem? (i := 116) rfl)
theorem gw_1317 : Jvm.Cond.selects "java/util/NoSuchElementException" ({ cls := "java/lang/Throwable", name := "fillInStackTrace", desc := "(I)Ljava/lang/Throwable;" } : Jvm.MethodName) ({ cls := "java/lang/Throwable", name := "fillInStackTrace", desc := "(I)Ljava/lang/Throwable;" } : Jvm.MethodName) ∈ gw := gw_of (mt_6 _ (List.mem_of_getElem? (i := 117) rfl)) rfl
theorem gw_1318 : Jvm.Cond.lays "java/util/NoSuchElementException" "java/lang/Throwable" "cause" "Ljava/lang/Throwable;" ∈ gw := gw_of (mt_6 _ (List.mem_of_getElem? (i := 118) rfl)) rfl
theorem gw_1319 : Jvm.Cond.lays "java/util/NoSuchElementException" "java/lang/Throwable" "stackTrace" "[Ljava/lang/StackTraceElement;" ∈ gw := gw_of (mt_6 _ (List.mem_of_getElem? (i := 119) rfl)) rfl
theorem gw_1320 : Jvm.Cond.lays "java/util/NoSuchElementException" "java/lang/Throwable" "suppressedExceptions" "Ljava/util/List;" ∈ gw := gw_of (mt_6 _ (List.mem_of_getElem? (i := 120) rfl)) rfl
theorem gw_1321 : Jvm.Cond.lays "java/util/NoSuchElementException" "java/lang/Throwable" "detailMessage" "Ljava/lang/String;" ∈ gw := gw_of (mt_6 _ (List.mem_of_getElem? (i := 121) rfl)) rfl
theorem gw_1322 : Jvm.Cond.lays "java/util/NoSuchElementException" "java/lang/Throwable" "backtrace" "Ljava/lang/Object;" ∈ gw := gw_of (mt_6 _ (List.mem_of_getElem? (i := 122) rfl)) rfl
theorem gw_1323 : Jvm.Cond.methodLink "CoinKeeper" (186 : Nat) ({ cls := "java/util/NoSuchElementException", name := "<init>", desc := "()V" } : Jvm.MethodName) ∈ gw := gw_of (mt_6 _ (List.mem_of_getElem? (i := 123) rfl)) rfl
theorem gw_1324 : Jvm.Cond.instanceMethod ({ cls := "java/util/NoSuchElementException", name := "<init>", desc := "()V" } : Jvm.MethodName) ∈ gw := gw_of (mt_6 _ (List.mem_of_getElem? (i := 124) rfl)) rfl
theorem gw_1325 : Jvm.Cond.code ({ cls := "java/util/NoSuchElementException", name := "<init>", desc := "()V" } : Jvm.MethodName) prog_32_method_1_code (1 : Nat) (Option.none : Option Jvm.ClassFile.FieldType) ∈ gw := gw_of (mt_6 _ (List.mem_of_getElem? (i := 125) rfl)) rfl
theorem gw_1326 : Jvm.Cond.methodLink "java/util/NoSuchElementException" (1 : Nat) ({ cls := "java/lang/RuntimeException", name := "<init>", desc := "()V" } : Jvm.MethodName) ∈ gw := gw_of (mt_6 _ (List.mem_of_getElem? (i := 126) rfl)) rfl
theorem gw_1327 : Jvm.Cond.lays "java/util/NoSuchElementException" "java/lang/Throwable" "depth" "I" ∈ gw := gw_of (mt_6 _ (List.mem_of_getElem? (i := 127) rfl)) rfl
theorem gw_1328 : Jvm.Cond.superclass "java/util/NoSuchElementException" "java/lang/RuntimeException" ∈ gw := gw_of (mt_6 _ (List.mem_of_getElem? (i := 128) rfl)) rfl
theorem gw_1329 : Jvm.Cond.methodLink "CoinKeeperLaw" (80 : Nat) ({ cls := "CoinKeeperLaw", name := "count", desc := "(LCoinKeeper;I[J)I" } : Jvm.MethodName) ∈ gw := gw_of (mt_6 _ (List.mem_of_getElem? (i := 129) rfl)) rfl
theorem gw_1330 : Jvm.Cond.static ({ cls := "CoinKeeperLaw", name := "count", desc := "(LCoinKeeper;I[J)I" } : Jvm.MethodName) ∈ gw := gw_of (mt_6 _ (List.mem_of_getElem? (i := 130) rfl)) rfl
theorem gw_1331 : Jvm.Cond.codeWith ({ cls := "CoinKeeperLaw", name := "count", desc := "(LCoinKeeper;I[J)I" } : Jvm.MethodName) method_10_code (4 : Nat) (Option.some Jvm.ClassFile.FieldType.int) [((0 : Nat), (8 : Nat), (11 : Nat), (19 : Nat))] ∈ gw := gw_of (mt_6 _ (List.mem_of_getElem? (i := 131) rfl)) rfl
theorem gw_1332 : Jvm.Cond.methodLink "CoinKeeperLaw" (41 : Nat) ({ cls := "CoinKeeper", name := "count", desc := "(I)J" } : Jvm.MethodName) ∈ gw := gw_of (mt_6 _ (List.mem_of_getElem? (i := 132) rfl)) rfl
theorem gw_1333 : Jvm.Cond.instanceMethod ({ cls := "CoinKeeper", name := "count", desc := "(I)J" } : Jvm.MethodName) ∈ gw := gw_of (mt_6 _ (List.mem_of_getElem? (i := 133) rfl)) rfl
theorem gw_1334 : Jvm.Cond.selects "CoinKeeper" ({ cls := "CoinKeeper", name := "count", desc := "(I)J" } : Jvm.MethodName) ({ cls := "CoinKeeper", name := "count", desc := "(I)J" } : Jvm.MethodName) ∈ gw := gw_of (mt_6 _ (List.mem_of_getElem? (i := 134) rfl)) rfl
theorem gw_1335 : Jvm.Cond.code ({ cls := "CoinKeeper", name := "count", desc := "(I)J" } : Jvm.MethodName) prog_1_method_9_code (2 : Nat) (Option.some Jvm.ClassFile.FieldType.long) ∈ gw := gw_of (mt_6 _ (List.mem_of_getElem? (i := 135) rfl)) rfl
theorem gw_1336 : Jvm.Cond.methodLink "CoinKeeper" (190 : Nat) ({ cls := "CoinKeeper", name := "badBlocks", desc := "()I" } : Jvm.MethodName) ∈ gw := gw_of (mt_6 _ (List.mem_of_getElem? (i := 136) rfl)) rfl
theorem mw_1337 : Jvm.Cond.privateMethod ({ cls := "CoinKeeper", name := "badBlocks", desc := "()I" } : Jvm.MethodName) ∈ lw_tbl := mt_6 _ (List.mem_of_getElem? (i := 137) rfl)
theorem gw_1338 : Jvm.Cond.instanceMethod ({ cls := "CoinKeeper", name := "badBlocks", desc := "()I" } : Jvm.MethodName) ∈ gw := gw_of (mt_6 _ (List.mem_of_getElem? (i := 138) rfl)) rfl
theorem gw_1339 : Jvm.Cond.code ({ cls := "CoinKeeper", name := "badBlocks", desc := "()I" } : Jvm.MethodName) prog_1_method_23_code (3 : Nat) (Option.some Jvm.ClassFile.FieldType.int) ∈ gw := gw_of (mt_6 _ (List.mem_of_getElem? (i := 139) rfl)) rfl
theorem gw_1340 : Jvm.Cond.methodLink "CoinKeeper" (193 : Nat) ({ cls := "CoinKeeper$Ledger", name := "size", desc := "()I" } : Jvm.MethodName) ∈ gw := gw_of (mt_6 _ (List.mem_of_getElem? (i := 140) rfl)) rfl
theorem gw_1341 : Jvm.Cond.instanceMethod ({ cls := "CoinKeeper$Ledger", name := "size", desc := "()I" } : Jvm.MethodName) ∈ gw := gw_of (mt_6 _ (List.mem_of_getElem? (i := 141) rfl)) rfl
theorem gw_1342 : Jvm.Cond.selects "CoinKeeper$Ledger" ({ cls := "CoinKeeper$Ledger", name := "size", desc := "()I" } : Jvm.MethodName) ({ cls := "CoinKeeper$Ledger", name := "size", desc := "()I" } : Jvm.MethodName) ∈ gw := gw_of (mt_6 _ (List.mem_of_getElem? (i := 142) rfl)) rfl
theorem gw_1343 : Jvm.Cond.code ({ cls := "CoinKeeper$Ledger", name := "size", desc := "()I" } : Jvm.MethodName) prog_6_method_8_code (1 : Nat) (Option.some Jvm.ClassFile.FieldType.int) ∈ gw := gw_of (mt_6 _ (List.mem_of_getElem? (i := 143) rfl)) rfl
theorem gw_1344 : Jvm.Cond.methodLink "CoinKeeper" (194 : Nat) ({ cls := "CoinKeeper$Ledger", name := "values", desc := "()J" } : Jvm.MethodName) ∈ gw := gw_of (mt_6 _ (List.mem_of_getElem? (i := 144) rfl)) rfl
theorem gw_1345 : Jvm.Cond.instanceMethod ({ cls := "CoinKeeper$Ledger", name := "values", desc := "()J" } : Jvm.MethodName) ∈ gw := gw_of (mt_6 _ (List.mem_of_getElem? (i := 145) rfl)) rfl
theorem gw_1346 : Jvm.Cond.selects "CoinKeeper$Ledger" ({ cls := "CoinKeeper$Ledger", name := "values", desc := "()J" } : Jvm.MethodName) ({ cls := "CoinKeeper$Ledger", name := "values", desc := "()J" } : Jvm.MethodName) ∈ gw := gw_of (mt_6 _ (List.mem_of_getElem? (i := 146) rfl)) rfl
theorem gw_1347 : Jvm.Cond.code ({ cls := "CoinKeeper$Ledger", name := "values", desc := "()J" } : Jvm.MethodName) prog_6_method_9_code (4 : Nat) (Option.some Jvm.ClassFile.FieldType.long) ∈ gw := gw_of (mt_6 _ (List.mem_of_getElem? (i := 147) rfl)) rfl
theorem gw_1348 : Jvm.Cond.methodLink "CoinKeeperLaw" (88 : Nat) ({ cls := "CoinKeeperLaw", name := "signed", desc := "(LCoinKeeper;I[J)I" } : Jvm.MethodName) ∈ gw := gw_of (mt_6 _ (List.mem_of_getElem? (i := 148) rfl)) rfl
theorem gw_1349 : Jvm.Cond.static ({ cls := "CoinKeeperLaw", name := "signed", desc := "(LCoinKeeper;I[J)I" } : Jvm.MethodName) ∈ gw := gw_of (mt_6 _ (List.mem_of_getElem? (i := 149) rfl)) rfl
theorem gw_1350 : Jvm.Cond.codeWith ({ cls := "CoinKeeperLaw", name := "signed", desc := "(LCoinKeeper;I[J)I" } : Jvm.MethodName) method_11_code (4 : Nat) (Option.some Jvm.ClassFile.FieldType.int) [((0 : Nat), (16 : Nat), (19 : Nat), (19 : Nat))] ∈ gw := gw_of (mt_6 _ (List.mem_of_getElem? (i := 150) rfl)) rfl
theorem gw_1351 : Jvm.Cond.methodLink "CoinKeeperLaw" (44 : Nat) ({ cls := "CoinKeeper", name := "signed", desc := "(I)Z" } : Jvm.MethodName) ∈ gw := gw_of (mt_6 _ (List.mem_of_getElem? (i := 151) rfl)) rfl
theorem gw_1352 : Jvm.Cond.instanceMethod ({ cls := "CoinKeeper", name := "signed", desc := "(I)Z" } : Jvm.MethodName) ∈ gw := gw_of (mt_6 _ (List.mem_of_getElem? (i := 152) rfl)) rfl
theorem gw_1353 : Jvm.Cond.selects "CoinKeeper" ({ cls := "CoinKeeper", name := "signed", desc := "(I)Z" } : Jvm.MethodName) ({ cls := "CoinKeeper", name := "signed", desc := "(I)Z" } : Jvm.MethodName) ∈ gw := gw_of (mt_6 _ (List.mem_of_getElem? (i := 153) rfl)) rfl
theorem gw_1354 : Jvm.Cond.code ({ cls := "CoinKeeper", name := "signed", desc := "(I)Z" } : Jvm.MethodName) prog_1_method_11_code (2 : Nat) (Option.some Jvm.ClassFile.FieldType.boolean) ∈ gw := gw_of (mt_6 _ (List.mem_of_getElem? (i := 154) rfl)) rfl
theorem gw_1355 : Jvm.Cond.methodLink "CoinKeeper" (201 : Nat) ({ cls := "CoinKeeper$Signatures", name := "verify", desc := "([BIIIII)Z" } : Jvm.MethodName) ∈ gw := gw_of (mt_6 _ (List.mem_of_getElem? (i := 155) rfl)) rfl
theorem gw_1356 : Jvm.Cond.classLink "CoinKeeperLaw" (48 : Nat) "CoinKeeperModel" ∈ gw := gw_of (mt_6 _ (List.mem_of_getElem? (i := 156) rfl)) rfl
theorem gw_1357 : Jvm.Cond.instantiable "CoinKeeperModel" (98 : Nat) ∈ gw := gw_of (mt_6 _ (List.mem_of_getElem? (i := 157) rfl)) rfl
theorem gw_1358 : Jvm.Cond.methodLink "CoinKeeperLaw" (50 : Nat) ({ cls := "CoinKeeperModel", name := "<init>", desc := "()V" } : Jvm.MethodName) ∈ gw := gw_of (mt_6 _ (List.mem_of_getElem? (i := 158) rfl)) rfl
theorem gw_1359 : Jvm.Cond.instanceMethod ({ cls := "CoinKeeperModel", name := "<init>", desc := "()V" } : Jvm.MethodName) ∈ gw := gw_of (mt_6 _ (List.mem_of_getElem? (i := 159) rfl)) rfl
theorem gw_1360 : Jvm.Cond.code ({ cls := "CoinKeeperModel", name := "<init>", desc := "()V" } : Jvm.MethodName) prog_14_method_1_code (1 : Nat) (Option.none : Option Jvm.ClassFile.FieldType) ∈ gw := gw_of (mt_6 _ (List.mem_of_getElem? (i := 160) rfl)) rfl
theorem gw_1361 : Jvm.Cond.methodLink "CoinKeeperModel" (1 : Nat) ({ cls := "java/lang/Object", name := "<init>", desc := "()V" } : Jvm.MethodName) ∈ gw := gw_of (mt_6 _ (List.mem_of_getElem? (i := 161) rfl)) rfl
theorem gw_1362 : Jvm.Cond.constant "CoinKeeperModel" (13 : Nat) (103000 : Int32) ∈ gw := gw_of (mt_6 _ (List.mem_of_getElem? (i := 162) rfl)) rfl
theorem gw_1363 : Jvm.Cond.constant "CoinKeeperModel" (110 : Nat) (32768 : Int32) ∈ gw := gw_of (mt_6 _ (List.mem_of_getElem? (i := 163) rfl)) rfl
theorem gw_1364 : Jvm.Cond.constant "CoinKeeperModel" (126 : Nat) (100200 : Int32) ∈ gw := gw_of (mt_6 _ (List.mem_of_getElem? (i := 164) rfl)) rfl
theorem gw_1365 : Jvm.Cond.constant "CoinKeeperModel" (220 : Nat) (104448 : Int32) ∈ gw := gw_of (mt_6 _ (List.mem_of_getElem? (i := 165) rfl)) rfl
theorem gw_1366 : Jvm.Cond.constant "CoinKeeperModel" (230 : Nat) (100100 : Int32) ∈ gw := gw_of (mt_6 _ (List.mem_of_getElem? (i := 166) rfl)) rfl
theorem gw_1367 : Jvm.Cond.constant "CoinKeeperModel" (256 : Nat) (1000000 : Int32) ∈ gw := gw_of (mt_6 _ (List.mem_of_getElem? (i := 167) rfl)) rfl
theorem gw_1368 : Jvm.Cond.constant "CoinKeeperModel" (257 : Nat) (545259519 : Int32) ∈ gw := gw_of (mt_6 _ (List.mem_of_getElem? (i := 168) rfl)) rfl
theorem gw_1369 : Jvm.Cond.methodLink "CoinKeeperModel" (258 : Nat) ({ cls := "CoinKeeperModel", name := "target", desc := "(I)Z" } : Jvm.MethodName) ∈ gw := gw_of (mt_6 _ (List.mem_of_getElem? (i := 169) rfl)) rfl
theorem mw_1370 : Jvm.Cond.privateMethod ({ cls := "CoinKeeperModel", name := "target", desc := "(I)Z" } : Jvm.MethodName) ∈ lw_tbl := mt_6 _ (List.mem_of_getElem? (i := 170) rfl)
theorem gw_1371 : Jvm.Cond.instanceMethod ({ cls := "CoinKeeperModel", name := "target", desc := "(I)Z" } : Jvm.MethodName) ∈ gw := gw_of (mt_6 _ (List.mem_of_getElem? (i := 171) rfl)) rfl
theorem gw_1372 : Jvm.Cond.code ({ cls := "CoinKeeperModel", name := "target", desc := "(I)Z" } : Jvm.MethodName) prog_14_method_17_code (7 : Nat) (Option.some Jvm.ClassFile.FieldType.boolean) ∈ gw := gw_of (mt_6 _ (List.mem_of_getElem? (i := 172) rfl)) rfl
theorem gw_1373 : Jvm.Cond.constant "CoinKeeperModel" (353 : Nat) (16777215 : Int32) ∈ gw := gw_of (mt_6 _ (List.mem_of_getElem? (i := 173) rfl)) rfl
theorem gw_1374 : Jvm.Cond.constant "CoinKeeperModel" (354 : Nat) (8388608 : Int32) ∈ gw := gw_of (mt_6 _ (List.mem_of_getElem? (i := 174) rfl)) rfl
theorem gw_1375 : Jvm.Cond.methodLink "CoinKeeperModel" (355 : Nat) ({ cls := "CoinKeeperModel", name := "isZero", desc := "([I)Z" } : Jvm.MethodName) ∈ gw := gw_of (mt_6 _ (List.mem_of_getElem? (i := 175) rfl)) rfl
theorem gw_1376 : Jvm.Cond.static ({ cls := "CoinKeeperModel", name := "isZero", desc := "([I)Z" } : Jvm.MethodName) ∈ gw := gw_of (mt_6 _ (List.mem_of_getElem? (i := 176) rfl)) rfl
theorem gw_1377 : Jvm.Cond.code ({ cls := "CoinKeeperModel", name := "isZero", desc := "([I)Z" } : Jvm.MethodName) prog_14_method_11_code (2 : Nat) (Option.some Jvm.ClassFile.FieldType.boolean) ∈ gw := gw_of (mt_6 _ (List.mem_of_getElem? (i := 177) rfl)) rfl
theorem gw_1378 : Jvm.Cond.constant "CoinKeeperModel" (359 : Nat) (2147483392 : Int32) ∈ gw := gw_of (mt_6 _ (List.mem_of_getElem? (i := 178) rfl)) rfl
theorem gw_1379 : Jvm.Cond.methodLink "CoinKeeperModel" (360 : Nat) ({ cls := "CoinKeeperModel", name := "isLow", desc := "()Z" } : Jvm.MethodName) ∈ gw := gw_of (mt_6 _ (List.mem_of_getElem? (i := 179) rfl)) rfl
theorem mw_1380 : Jvm.Cond.privateMethod ({ cls := "CoinKeeperModel", name := "isLow", desc := "()Z" } : Jvm.MethodName) ∈ lw_tbl := mt_6 _ (List.mem_of_getElem? (i := 180) rfl)
theorem gw_1381 : Jvm.Cond.instanceMethod ({ cls := "CoinKeeperModel", name := "isLow", desc := "()Z" } : Jvm.MethodName) ∈ gw := gw_of (mt_6 _ (List.mem_of_getElem? (i := 181) rfl)) rfl
theorem gw_1382 : Jvm.Cond.code ({ cls := "CoinKeeperModel", name := "isLow", desc := "()Z" } : Jvm.MethodName) prog_14_method_18_code (2 : Nat) (Option.some Jvm.ClassFile.FieldType.boolean) ∈ gw := gw_of (mt_6 _ (List.mem_of_getElem? (i := 182) rfl)) rfl
theorem gw_1383 : Jvm.Cond.methodLink "CoinKeeperModel" (261 : Nat) ({ cls := "CoinKeeperModel", name := "worth", desc := "(I)V" } : Jvm.MethodName) ∈ gw := gw_of (mt_6 _ (List.mem_of_getElem? (i := 183) rfl)) rfl
theorem mw_1384 : Jvm.Cond.privateMethod ({ cls := "CoinKeeperModel", name := "worth", desc := "(I)V" } : Jvm.MethodName) ∈ lw_tbl := mt_6 _ (List.mem_of_getElem? (i := 184) rfl)
theorem gw_1385 : Jvm.Cond.instanceMethod ({ cls := "CoinKeeperModel", name := "worth", desc := "(I)V" } : Jvm.MethodName) ∈ gw := gw_of (mt_6 _ (List.mem_of_getElem? (i := 185) rfl)) rfl
theorem gw_1386 : Jvm.Cond.code ({ cls := "CoinKeeperModel", name := "worth", desc := "(I)V" } : Jvm.MethodName) prog_14_method_21_code (3 : Nat) (Option.none : Option Jvm.ClassFile.FieldType) ∈ gw := gw_of (mt_6 _ (List.mem_of_getElem? (i := 186) rfl)) rfl
theorem gw_1387 : Jvm.Cond.methodLink "CoinKeeperModel" (338 : Nat) ({ cls := "CoinKeeperModel", name := "add", desc := "([I[I[I)I" } : Jvm.MethodName) ∈ gw := gw_of (mt_6 _ (List.mem_of_getElem? (i := 187) rfl)) rfl
theorem gw_1388 : Jvm.Cond.static ({ cls := "CoinKeeperModel", name := "add", desc := "([I[I[I)I" } : Jvm.MethodName) ∈ gw := gw_of (mt_6 _ (List.mem_of_getElem? (i := 188) rfl)) rfl
theorem gw_1389 : Jvm.Cond.code ({ cls := "CoinKeeperModel", name := "add", desc := "([I[I[I)I" } : Jvm.MethodName) prog_14_method_12_code (6 : Nat) (Option.some Jvm.ClassFile.FieldType.int) ∈ gw := gw_of (mt_6 _ (List.mem_of_getElem? (i := 189) rfl)) rfl
theorem gw_1390 : Jvm.Cond.constantLong "CoinKeeperModel" (332 : Nat) (4294967295 : Int64) ∈ gw := gw_of (mt_6 _ (List.mem_of_getElem? (i := 190) rfl)) rfl
theorem gw_1391 : Jvm.Cond.methodLink "CoinKeeperModel" (367 : Nat) ({ cls := "CoinKeeperModel", name := "divide", desc := "([I[I)V" } : Jvm.MethodName) ∈ gw := gw_of (mt_6 _ (List.mem_of_getElem? (i := 191) rfl)) rfl
theorem mw_1392 : Jvm.Cond.privateMethod ({ cls := "CoinKeeperModel", name := "divide", desc := "([I[I)V" } : Jvm.MethodName) ∈ lw_tbl := mt_6 _ (List.mem_of_getElem? (i := 192) rfl)
theorem gw_1393 : Jvm.Cond.instanceMethod ({ cls := "CoinKeeperModel", name := "divide", desc := "([I[I)V" } : Jvm.MethodName) ∈ gw := gw_of (mt_6 _ (List.mem_of_getElem? (i := 193) rfl)) rfl
theorem gw_1394 : Jvm.Cond.code ({ cls := "CoinKeeperModel", name := "divide", desc := "([I[I)V" } : Jvm.MethodName) prog_14_method_16_code (5 : Nat) (Option.none : Option Jvm.ClassFile.FieldType) ∈ gw := gw_of (mt_6 _ (List.mem_of_getElem? (i := 194) rfl)) rfl
theorem gw_1395 : Jvm.Cond.methodLink "CoinKeeperModel" (334 : Nat) ({ cls := "CoinKeeperModel", name := "copy", desc := "([I[I)V" } : Jvm.MethodName) ∈ gw := gw_of (mt_6 _ (List.mem_of_getElem? (i := 195) rfl)) rfl
theorem gw_1396 : Jvm.Cond.static ({ cls := "CoinKeeperModel", name := "copy", desc := "([I[I)V" } : Jvm.MethodName) ∈ gw := gw_of (mt_6 _ (List.mem_of_getElem? (i := 196) rfl)) rfl
theorem gw_1397 : Jvm.Cond.code ({ cls := "CoinKeeperModel", name := "copy", desc := "([I[I)V" } : Jvm.MethodName) prog_14_method_14_code (2 : Nat) (Option.none : Option Jvm.ClassFile.FieldType) ∈ gw := gw_of (mt_6 _ (List.mem_of_getElem? (i := 197) rfl)) rfl
theorem gw_1398 : Jvm.Cond.methodLink "CoinKeeperModel" (271 : Nat) ({ cls := "java/lang/System", name := "arraycopy", desc := "(Ljava/lang/Object;ILjava/lang/Object;II)V" } : Jvm.MethodName) ∈ gw := gw_of (mt_6 _ (List.mem_of_getElem? (i := 198) rfl)) rfl
theorem gw_1399 : Jvm.Cond.methodLink "CoinKeeperModel" (342 : Nat) ({ cls := "CoinKeeperModel", name := "bit", desc := "([II)I" } : Jvm.MethodName) ∈ gw := gw_of (mt_6 _ (List.mem_of_getElem? (i := 199) rfl)) rfl
theorem gw_1400 : Jvm.Cond.static ({ cls := "CoinKeeperModel", name := "bit", desc := "([II)I" } : Jvm.MethodName) ∈ gw := gw_of (mt_6 _ (List.mem_of_getElem? (i := 200) rfl)) rfl
theorem gw_1401 : Jvm.Cond.code ({ cls := "CoinKeeperModel", name := "bit", desc := "([II)I" } : Jvm.MethodName) prog_14_method_15_code (2 : Nat) (Option.some Jvm.ClassFile.FieldType.int) ∈ gw := gw_of (mt_6 _ (List.mem_of_getElem? (i := 201) rfl)) rfl
theorem gw_1402 : Jvm.Cond.methodLink "CoinKeeperModel" (346 : Nat) ({ cls := "CoinKeeperModel", name := "compare", desc := "([I[I)I" } : Jvm.MethodName) ∈ gw := gw_of (mt_6 _ (List.mem_of_getElem? (i := 202) rfl)) rfl
theorem gw_1403 : Jvm.Cond.static ({ cls := "CoinKeeperModel", name := "compare", desc := "([I[I)I" } : Jvm.MethodName) ∈ gw := gw_of (mt_6 _ (List.mem_of_getElem? (i := 203) rfl)) rfl
theorem gw_1404 : Jvm.Cond.code ({ cls := "CoinKeeperModel", name := "compare", desc := "([I[I)I" } : Jvm.MethodName) prog_14_method_10_code (3 : Nat) (Option.some Jvm.ClassFile.FieldType.int) ∈ gw := gw_of (mt_6 _ (List.mem_of_getElem? (i := 204) rfl)) rfl
theorem gw_1405 : Jvm.Cond.methodLink "CoinKeeperModel" (327 : Nat) ({ cls := "java/lang/Integer", name := "compareUnsigned", desc := "(II)I" } : Jvm.MethodName) ∈ gw := gw_of (mt_6 _ (List.mem_of_getElem? (i := 205) rfl)) rfl
theorem gw_1406 : Jvm.Cond.static ({ cls := "java/lang/Integer", name := "compareUnsigned", desc := "(II)I" } : Jvm.MethodName) ∈ gw := gw_of (mt_6 _ (List.mem_of_getElem? (i := 206) rfl)) rfl
theorem gw_1407 : Jvm.Cond.code ({ cls := "java/lang/Integer", name := "compareUnsigned", desc := "(II)I" } : Jvm.MethodName) prog_20_method_41_code (2 : Nat) (Option.some Jvm.ClassFile.FieldType.int) ∈ gw := gw_of (mt_6 _ (List.mem_of_getElem? (i := 207) rfl)) rfl
theorem gw_1408 : Jvm.Cond.constant "java/lang/Integer" (127 : Nat) (-2147483648 : Int32) ∈ gw := gw_of (mt_6 _ (List.mem_of_getElem? (i := 208) rfl)) rfl
theorem gw_1409 : Jvm.Cond.methodLink "java/lang/Integer" (259 : Nat) ({ cls := "java/lang/Integer", name := "compare", desc := "(II)I" } : Jvm.MethodName) ∈ gw := gw_of (mt_6 _ (List.mem_of_getElem? (i := 209) rfl)) rfl
theorem gw_1410 : Jvm.Cond.static ({ cls := "java/lang/Integer", name := "compare", desc := "(II)I" } : Jvm.MethodName) ∈ gw := gw_of (mt_6 _ (List.mem_of_getElem? (i := 210) rfl)) rfl
theorem gw_1411 : Jvm.Cond.code ({ cls := "java/lang/Integer", name := "compare", desc := "(II)I" } : Jvm.MethodName) prog_20_method_40_code (2 : Nat) (Option.some Jvm.ClassFile.FieldType.int) ∈ gw := gw_of (mt_6 _ (List.mem_of_getElem? (i := 211) rfl)) rfl
theorem gw_1412 : Jvm.Cond.methodLink "CoinKeeperModel" (350 : Nat) ({ cls := "CoinKeeperModel", name := "sub", desc := "([I[I[I)I" } : Jvm.MethodName) ∈ gw := gw_of (mt_6 _ (List.mem_of_getElem? (i := 212) rfl)) rfl
theorem gw_1413 : Jvm.Cond.static ({ cls := "CoinKeeperModel", name := "sub", desc := "([I[I[I)I" } : Jvm.MethodName) ∈ gw := gw_of (mt_6 _ (List.mem_of_getElem? (i := 213) rfl)) rfl
theorem gw_1414 : Jvm.Cond.code ({ cls := "CoinKeeperModel", name := "sub", desc := "([I[I[I)I" } : Jvm.MethodName) prog_14_method_13_code (6 : Nat) (Option.some Jvm.ClassFile.FieldType.int) ∈ gw := gw_of (mt_6 _ (List.mem_of_getElem? (i := 214) rfl)) rfl
theorem gw_1415 : Jvm.Cond.methodLink "CoinKeeperModel" (265 : Nat) ({ cls := "CoinKeeperModel", name := "clear", desc := "()V" } : Jvm.MethodName) ∈ gw := gw_of (mt_6 _ (List.mem_of_getElem? (i := 215) rfl)) rfl
theorem mw_1416 : Jvm.Cond.privateMethod ({ cls := "CoinKeeperModel", name := "clear", desc := "()V" } : Jvm.MethodName) ∈ lw_tbl := mt_6 _ (List.mem_of_getElem? (i := 216) rfl)
theorem gw_1417 : Jvm.Cond.instanceMethod ({ cls := "CoinKeeperModel", name := "clear", desc := "()V" } : Jvm.MethodName) ∈ gw := gw_of (mt_6 _ (List.mem_of_getElem? (i := 217) rfl)) rfl
theorem gw_1418 : Jvm.Cond.code ({ cls := "CoinKeeperModel", name := "clear", desc := "()V" } : Jvm.MethodName) prog_14_method_73_code (2 : Nat) (Option.none : Option Jvm.ClassFile.FieldType) ∈ gw := gw_of (mt_6 _ (List.mem_of_getElem? (i := 218) rfl)) rfl
theorem gw_1419 : Jvm.Cond.fieldLink "CoinKeeperModel" (9 : Nat) "CoinKeeperModel" "row" "[B" ∈ gw := gw_of (mt_6 _ (List.mem_of_getElem? (i := 219) rfl)) rfl
theorem gw_1420 : Jvm.Cond.fieldLink "CoinKeeperModel" (14 : Nat) "CoinKeeperModel" "store" "[B" ∈ gw := gw_of (mt_6 _ (List.mem_of_getElem? (i := 220) rfl)) rfl
theorem gw_1421 : Jvm.Cond.fieldLink "CoinKeeperModel" (656 : Nat) "CoinKeeperModel" "rows" "I" ∈ gw := gw_of (mt_6 _ (List.mem_of_getElem? (i := 221) rfl)) rfl
theorem gw_1422 : Jvm.Cond.fieldLink "CoinKeeperModel" (662 : Nat) "CoinKeeperModel" "used" "I" ∈ gw := gw_of (mt_6 _ (List.mem_of_getElem? (i := 222) rfl)) rfl
theorem gw_1423 : Jvm.Cond.fieldLink "CoinKeeperModel" (268 : Nat) "CoinKeeperModel" "thrown" "I" ∈ gw := gw_of (mt_6 _ (List.mem_of_getElem? (i := 223) rfl)) rfl
theorem gw_1424 : Jvm.Cond.fieldLink "CoinKeeperModel" (17 : Nat) "CoinKeeperModel" "bAt" "[I" ∈ gw := gw_of (mt_6 _ (List.mem_of_getElem? (i := 224) rfl)) rfl
theorem gw_1425 : Jvm.Cond.fieldLink "CoinKeeperModel" (21 : Nat) "CoinKeeperModel" "parent" "[I" ∈ gw := gw_of (mt_6 _ (List.mem_of_getElem? (i := 225) rfl)) rfl
theorem gw_1426 : Jvm.Cond.fieldLink "CoinKeeperModel" (24 : Nat) "CoinKeeperModel" "height" "[I" ∈ gw := gw_of (mt_6 _ (List.mem_of_getElem? (i := 226) rfl)) rfl
theorem gw_1427 : Jvm.Cond.fieldLink "CoinKeeperModel" (27 : Nat) "CoinKeeperModel" "time" "[I" ∈ gw := gw_of (mt_6 _ (List.mem_of_getElem? (i := 227) rfl)) rfl
theorem gw_1428 : Jvm.Cond.fieldLink "CoinKeeperModel" (30 : Nat) "CoinKeeperModel" "bits" "[I" ∈ gw := gw_of (mt_6 _ (List.mem_of_getElem? (i := 228) rfl)) rfl
theorem gw_1429 : Jvm.Cond.fieldLink "CoinKeeperModel" (33 : Nat) "CoinKeeperModel" "bTx" "[I" ∈ gw := gw_of (mt_6 _ (List.mem_of_getElem? (i := 229) rfl)) rfl
theorem gw_1430 : Jvm.Cond.fieldLink "CoinKeeperModel" (36 : Nat) "CoinKeeperModel" "bTxs" "[I" ∈ gw := gw_of (mt_6 _ (List.mem_of_getElem? (i := 230) rfl)) rfl
theorem gw_1431 : Jvm.Cond.fieldLink "CoinKeeperModel" (39 : Nat) "CoinKeeperModel" "bId" "[I" ∈ gw := gw_of (mt_6 _ (List.mem_of_getElem? (i := 231) rfl)) rfl
theorem gw_1432 : Jvm.Cond.fieldLink "CoinKeeperModel" (42 : Nat) "CoinKeeperModel" "work" "[I" ∈ gw := gw_of (mt_6 _ (List.mem_of_getElem? (i := 232) rfl)) rfl
theorem gw_1433 : Jvm.Cond.fieldLink "CoinKeeperModel" (45 : Nat) "CoinKeeperModel" "isBad" "[Z" ∈ gw := gw_of (mt_6 _ (List.mem_of_getElem? (i := 233) rfl)) rfl
theorem gw_1434 : Jvm.Cond.fieldLink "CoinKeeperModel" (252 : Nat) "CoinKeeperModel" "blocks" "I" ∈ gw := gw_of (mt_6 _ (List.mem_of_getElem? (i := 234) rfl)) rfl
theorem gw_1435 : Jvm.Cond.fieldLink "CoinKeeperModel" (669 : Nat) "CoinKeeperModel" "tip" "I" ∈ gw := gw_of (mt_6 _ (List.mem_of_getElem? (i := 235) rfl)) rfl
theorem gw_1436 : Jvm.Cond.fieldLink "CoinKeeperModel" (49 : Nat) "CoinKeeperModel" "tAt" "[I" ∈ gw := gw_of (mt_6 _ (List.mem_of_getElem? (i := 236) rfl)) rfl
theorem gw_1437 : Jvm.Cond.fieldLink "CoinKeeperModel" (52 : Nat) "CoinKeeperModel" "tSize" "[I" ∈ gw := gw_of (mt_6 _ (List.mem_of_getElem? (i := 237) rfl)) rfl
theorem gw_1438 : Jvm.Cond.fieldLink "CoinKeeperModel" (55 : Nat) "CoinKeeperModel" "tId" "[I" ∈ gw := gw_of (mt_6 _ (List.mem_of_getElem? (i := 238) rfl)) rfl
theorem gw_1439 : Jvm.Cond.fieldLink "CoinKeeperModel" (58 : Nat) "CoinKeeperModel" "tIn" "[I" ∈ gw := gw_of (mt_6 _ (List.mem_of_getElem? (i := 239) rfl)) rfl
theorem gw_1440 : Jvm.Cond.fieldLink "CoinKeeperModel" (61 : Nat) "CoinKeeperModel" "tIns" "[I" ∈ gw := gw_of (mt_7 _ (List.mem_of_getElem? (i := 0) rfl)) rfl
theorem gw_1441 : Jvm.Cond.fieldLink "CoinKeeperModel" (64 : Nat) "CoinKeeperModel" "tOut" "[I" ∈ gw := gw_of (mt_7 _ (List.mem_of_getElem? (i := 1) rfl)) rfl
theorem gw_1442 : Jvm.Cond.fieldLink "CoinKeeperModel" (67 : Nat) "CoinKeeperModel" "tOuts" "[I" ∈ gw := gw_of (mt_7 _ (List.mem_of_getElem? (i := 2) rfl)) rfl
theorem gw_1443 : Jvm.Cond.fieldLink "CoinKeeperModel" (70 : Nat) "CoinKeeperModel" "tLock" "[I" ∈ gw := gw_of (mt_7 _ (List.mem_of_getElem? (i := 3) rfl)) rfl
theorem gw_1444 : Jvm.Cond.fieldLink "CoinKeeperModel" (553 : Nat) "CoinKeeperModel" "txs" "I" ∈ gw := gw_of (mt_7 _ (List.mem_of_getElem? (i := 4) rfl)) rfl
theorem gw_1445 : Jvm.Cond.fieldLink "CoinKeeperModel" (73 : Nat) "CoinKeeperModel" "iAt" "[I" ∈ gw := gw_of (mt_7 _ (List.mem_of_getElem? (i := 5) rfl)) rfl
theorem gw_1446 : Jvm.Cond.fieldLink "CoinKeeperModel" (76 : Nat) "CoinKeeperModel" "iScript" "[I" ∈ gw := gw_of (mt_7 _ (List.mem_of_getElem? (i := 6) rfl)) rfl
theorem gw_1447 : Jvm.Cond.fieldLink "CoinKeeperModel" (79 : Nat) "CoinKeeperModel" "iLong" "[I" ∈ gw := gw_of (mt_7 _ (List.mem_of_getElem? (i := 7) rfl)) rfl
theorem gw_1448 : Jvm.Cond.fieldLink "CoinKeeperModel" (82 : Nat) "CoinKeeperModel" "iSequence" "[I" ∈ gw := gw_of (mt_7 _ (List.mem_of_getElem? (i := 8) rfl)) rfl
theorem gw_1449 : Jvm.Cond.fieldLink "CoinKeeperModel" (85 : Nat) "CoinKeeperModel" "iFine" "[B" ∈ gw := gw_of (mt_7 _ (List.mem_of_getElem? (i := 9) rfl)) rfl
theorem gw_1450 : Jvm.Cond.fieldLink "CoinKeeperModel" (556 : Nat) "CoinKeeperModel" "inputs" "I" ∈ gw := gw_of (mt_7 _ (List.mem_of_getElem? (i := 10) rfl)) rfl
theorem gw_1451 : Jvm.Cond.fieldLink "CoinKeeperModel" (88 : Nat) "CoinKeeperModel" "oValue" "[J" ∈ gw := gw_of (mt_7 _ (List.mem_of_getElem? (i := 11) rfl)) rfl
theorem gw_1452 : Jvm.Cond.fieldLink "CoinKeeperModel" (92 : Nat) "CoinKeeperModel" "oScript" "[I" ∈ gw := gw_of (mt_7 _ (List.mem_of_getElem? (i := 12) rfl)) rfl
theorem gw_1453 : Jvm.Cond.fieldLink "CoinKeeperModel" (95 : Nat) "CoinKeeperModel" "oLong" "[I" ∈ gw := gw_of (mt_7 _ (List.mem_of_getElem? (i := 13) rfl)) rfl
theorem gw_1454 : Jvm.Cond.fieldLink "CoinKeeperModel" (98 : Nat) "CoinKeeperModel" "oTx" "[I" ∈ gw := gw_of (mt_7 _ (List.mem_of_getElem? (i := 14) rfl)) rfl
theorem gw_1455 : Jvm.Cond.fieldLink "CoinKeeperModel" (567 : Nat) "CoinKeeperModel" "outputs" "I" ∈ gw := gw_of (mt_7 _ (List.mem_of_getElem? (i := 15) rfl)) rfl
theorem gw_1456 : Jvm.Cond.fieldLink "CoinKeeperModel" (101 : Nat) "CoinKeeperModel" "uOutput" "[I" ∈ gw := gw_of (mt_7 _ (List.mem_of_getElem? (i := 16) rfl)) rfl
theorem gw_1457 : Jvm.Cond.fieldLink "CoinKeeperModel" (104 : Nat) "CoinKeeperModel" "uHeight" "[I" ∈ gw := gw_of (mt_7 _ (List.mem_of_getElem? (i := 17) rfl)) rfl
theorem gw_1458 : Jvm.Cond.fieldLink "CoinKeeperModel" (107 : Nat) "CoinKeeperModel" "uNext" "[I" ∈ gw := gw_of (mt_7 _ (List.mem_of_getElem? (i := 18) rfl)) rfl
theorem gw_1459 : Jvm.Cond.fieldLink "CoinKeeperModel" (111 : Nat) "CoinKeeperModel" "chain" "[I" ∈ gw := gw_of (mt_7 _ (List.mem_of_getElem? (i := 19) rfl)) rfl
theorem gw_1460 : Jvm.Cond.fieldLink "CoinKeeperModel" (114 : Nat) "CoinKeeperModel" "uIs" "[Z" ∈ gw := gw_of (mt_7 _ (List.mem_of_getElem? (i := 20) rfl)) rfl
theorem gw_1461 : Jvm.Cond.fieldLink "CoinKeeperModel" (117 : Nat) "CoinKeeperModel" "s" "[I" ∈ gw := gw_of (mt_7 _ (List.mem_of_getElem? (i := 21) rfl)) rfl
theorem gw_1462 : Jvm.Cond.fieldLink "CoinKeeperModel" (120 : Nat) "CoinKeeperModel" "w" "[I" ∈ gw := gw_of (mt_7 _ (List.mem_of_getElem? (i := 22) rfl)) rfl
theorem gw_1463 : Jvm.Cond.fieldLink "CoinKeeperModel" (123 : Nat) "CoinKeeperModel" "hash" "[B" ∈ gw := gw_of (mt_7 _ (List.mem_of_getElem? (i := 23) rfl)) rfl
theorem gw_1464 : Jvm.Cond.fieldLink "CoinKeeperModel" (127 : Nat) "CoinKeeperModel" "padded" "[B" ∈ gw := gw_of (mt_7 _ (List.mem_of_getElem? (i := 24) rfl)) rfl
theorem gw_1465 : Jvm.Cond.fieldLink "CoinKeeperModel" (130 : Nat) "CoinKeeperModel" "target" "[I" ∈ gw := gw_of (mt_7 _ (List.mem_of_getElem? (i := 25) rfl)) rfl
theorem gw_1466 : Jvm.Cond.fieldLink "CoinKeeperModel" (133 : Nat) "CoinKeeperModel" "one" "[I" ∈ gw := gw_of (mt_7 _ (List.mem_of_getElem? (i := 26) rfl)) rfl
theorem gw_1467 : Jvm.Cond.fieldLink "CoinKeeperModel" (136 : Nat) "CoinKeeperModel" "number" "[I" ∈ gw := gw_of (mt_7 _ (List.mem_of_getElem? (i := 27) rfl)) rfl
theorem gw_1468 : Jvm.Cond.fieldLink "CoinKeeperModel" (139 : Nat) "CoinKeeperModel" "rest" "[I" ∈ gw := gw_of (mt_7 _ (List.mem_of_getElem? (i := 28) rfl)) rfl
theorem gw_1469 : Jvm.Cond.fieldLink "CoinKeeperModel" (142 : Nat) "CoinKeeperModel" "quotient" "[I" ∈ gw := gw_of (mt_7 _ (List.mem_of_getElem? (i := 29) rfl)) rfl
theorem gw_1470 : Jvm.Cond.fieldLink "CoinKeeperModel" (145 : Nat) "CoinKeeperModel" "divisor" "[I" ∈ gw := gw_of (mt_7 _ (List.mem_of_getElem? (i := 30) rfl)) rfl
theorem gw_1471 : Jvm.Cond.fieldLink "CoinKeeperModel" (148 : Nat) "CoinKeeperModel" "x1" "[I" ∈ gw := gw_of (mt_7 _ (List.mem_of_getElem? (i := 31) rfl)) rfl
theorem gw_1472 : Jvm.Cond.fieldLink "CoinKeeperModel" (151 : Nat) "CoinKeeperModel" "x2" "[I" ∈ gw := gw_of (mt_7 _ (List.mem_of_getElem? (i := 32) rfl)) rfl
theorem gw_1473 : Jvm.Cond.fieldLink "CoinKeeperModel" (154 : Nat) "CoinKeeperModel" "y1" "[I" ∈ gw := gw_of (mt_7 _ (List.mem_of_getElem? (i := 33) rfl)) rfl
theorem gw_1474 : Jvm.Cond.fieldLink "CoinKeeperModel" (157 : Nat) "CoinKeeperModel" "y2" "[I" ∈ gw := gw_of (mt_7 _ (List.mem_of_getElem? (i := 34) rfl)) rfl
theorem gw_1475 : Jvm.Cond.fieldLink "CoinKeeperModel" (160 : Nat) "CoinKeeperModel" "uu" "[I" ∈ gw := gw_of (mt_7 _ (List.mem_of_getElem? (i := 35) rfl)) rfl
theorem gw_1476 : Jvm.Cond.fieldLink "CoinKeeperModel" (163 : Nat) "CoinKeeperModel" "vv" "[I" ∈ gw := gw_of (mt_7 _ (List.mem_of_getElem? (i := 36) rfl)) rfl
theorem gw_1477 : Jvm.Cond.fieldLink "CoinKeeperModel" (166 : Nat) "CoinKeeperModel" "product" "[I" ∈ gw := gw_of (mt_7 _ (List.mem_of_getElem? (i := 37) rfl)) rfl
theorem gw_1478 : Jvm.Cond.fieldLink "CoinKeeperModel" (169 : Nat) "CoinKeeperModel" "slope" "[I" ∈ gw := gw_of (mt_7 _ (List.mem_of_getElem? (i := 38) rfl)) rfl
theorem gw_1479 : Jvm.Cond.fieldLink "CoinKeeperModel" (172 : Nat) "CoinKeeperModel" "t1" "[I" ∈ gw := gw_of (mt_7 _ (List.mem_of_getElem? (i := 39) rfl)) rfl
theorem gw_1480 : Jvm.Cond.fieldLink "CoinKeeperModel" (175 : Nat) "CoinKeeperModel" "t2" "[I" ∈ gw := gw_of (mt_7 _ (List.mem_of_getElem? (i := 40) rfl)) rfl
theorem gw_1481 : Jvm.Cond.fieldLink "CoinKeeperModel" (178 : Nat) "CoinKeeperModel" "t3" "[I" ∈ gw := gw_of (mt_7 _ (List.mem_of_getElem? (i := 41) rfl)) rfl
theorem gw_1482 : Jvm.Cond.fieldLink "CoinKeeperModel" (181 : Nat) "CoinKeeperModel" "qx" "[I" ∈ gw := gw_of (mt_7 _ (List.mem_of_getElem? (i := 42) rfl)) rfl
theorem gw_1483 : Jvm.Cond.fieldLink "CoinKeeperModel" (184 : Nat) "CoinKeeperModel" "qy" "[I" ∈ gw := gw_of (mt_7 _ (List.mem_of_getElem? (i := 43) rfl)) rfl
theorem gw_1484 : Jvm.Cond.fieldLink "CoinKeeperModel" (187 : Nat) "CoinKeeperModel" "sx" "[I" ∈ gw := gw_of (mt_7 _ (List.mem_of_getElem? (i := 44) rfl)) rfl
theorem gw_1485 : Jvm.Cond.fieldLink "CoinKeeperModel" (190 : Nat) "CoinKeeperModel" "sy" "[I" ∈ gw := gw_of (mt_7 _ (List.mem_of_getElem? (i := 45) rfl)) rfl
theorem gw_1486 : Jvm.Cond.fieldLink "CoinKeeperModel" (193 : Nat) "CoinKeeperModel" "rx" "[I" ∈ gw := gw_of (mt_7 _ (List.mem_of_getElem? (i := 46) rfl)) rfl
theorem gw_1487 : Jvm.Cond.fieldLink "CoinKeeperModel" (196 : Nat) "CoinKeeperModel" "ry" "[I" ∈ gw := gw_of (mt_7 _ (List.mem_of_getElem? (i := 47) rfl)) rfl
theorem gw_1488 : Jvm.Cond.fieldLink "CoinKeeperModel" (199 : Nat) "CoinKeeperModel" "er" "[I" ∈ gw := gw_of (mt_7 _ (List.mem_of_getElem? (i := 48) rfl)) rfl
theorem gw_1489 : Jvm.Cond.fieldLink "CoinKeeperModel" (202 : Nat) "CoinKeeperModel" "es" "[I" ∈ gw := gw_of (mt_7 _ (List.mem_of_getElem? (i := 49) rfl)) rfl
theorem gw_1490 : Jvm.Cond.fieldLink "CoinKeeperModel" (205 : Nat) "CoinKeeperModel" "ew" "[I" ∈ gw := gw_of (mt_7 _ (List.mem_of_getElem? (i := 50) rfl)) rfl
theorem gw_1491 : Jvm.Cond.fieldLink "CoinKeeperModel" (208 : Nat) "CoinKeeperModel" "e1" "[I" ∈ gw := gw_of (mt_7 _ (List.mem_of_getElem? (i := 51) rfl)) rfl
theorem gw_1492 : Jvm.Cond.fieldLink "CoinKeeperModel" (211 : Nat) "CoinKeeperModel" "e2" "[I" ∈ gw := gw_of (mt_7 _ (List.mem_of_getElem? (i := 52) rfl)) rfl
theorem gw_1493 : Jvm.Cond.fieldLink "CoinKeeperModel" (388 : Nat) "CoinKeeperModel" "isFar" "Z" ∈ gw := gw_of (mt_7 _ (List.mem_of_getElem? (i := 53) rfl)) rfl
theorem gw_1494 : Jvm.Cond.fieldLink "CoinKeeperModel" (214 : Nat) "CoinKeeperModel" "ia" "[I" ∈ gw := gw_of (mt_7 _ (List.mem_of_getElem? (i := 54) rfl)) rfl
theorem gw_1495 : Jvm.Cond.fieldLink "CoinKeeperModel" (217 : Nat) "CoinKeeperModel" "ib" "[I" ∈ gw := gw_of (mt_7 _ (List.mem_of_getElem? (i := 55) rfl)) rfl
theorem gw_1496 : Jvm.Cond.fieldLink "CoinKeeperModel" (221 : Nat) "CoinKeeperModel" "thing" "[B" ∈ gw := gw_of (mt_7 _ (List.mem_of_getElem? (i := 56) rfl)) rfl
theorem gw_1497 : Jvm.Cond.fieldLink "CoinKeeperModel" (224 : Nat) "CoinKeeperModel" "size" "[I" ∈ gw := gw_of (mt_7 _ (List.mem_of_getElem? (i := 57) rfl)) rfl
theorem gw_1498 : Jvm.Cond.fieldLink "CoinKeeperModel" (439 : Nat) "CoinKeeperModel" "deep" "I" ∈ gw := gw_of (mt_7 _ (List.mem_of_getElem? (i := 58) rfl)) rfl
theorem gw_1499 : Jvm.Cond.fieldLink "CoinKeeperModel" (450 : Nat) "CoinKeeperModel" "aside" "I" ∈ gw := gw_of (mt_7 _ (List.mem_of_getElem? (i := 59) rfl)) rfl
theorem gw_1500 : Jvm.Cond.fieldLink "CoinKeeperModel" (453 : Nat) "CoinKeeperModel" "ops" "I" ∈ gw := gw_of (mt_7 _ (List.mem_of_getElem? (i := 60) rfl)) rfl
theorem gw_1501 : Jvm.Cond.fieldLink "CoinKeeperModel" (227 : Nat) "CoinKeeperModel" "taken" "[Z" ∈ gw := gw_of (mt_7 _ (List.mem_of_getElem? (i := 61) rfl)) rfl
theorem gw_1502 : Jvm.Cond.fieldLink "CoinKeeperModel" (513 : Nat) "CoinKeeperModel" "sigInput" "I" ∈ gw := gw_of (mt_7 _ (List.mem_of_getElem? (i := 62) rfl)) rfl
theorem gw_1503 : Jvm.Cond.fieldLink "CoinKeeperModel" (528 : Nat) "CoinKeeperModel" "sigTx" "I" ∈ gw := gw_of (mt_7 _ (List.mem_of_getElem? (i := 63) rfl)) rfl
theorem gw_1504 : Jvm.Cond.fieldLink "CoinKeeperModel" (537 : Nat) "CoinKeeperModel" "sigScript" "I" ∈ gw := gw_of (mt_7 _ (List.mem_of_getElem? (i := 64) rfl)) rfl
theorem gw_1505 : Jvm.Cond.fieldLink "CoinKeeperModel" (534 : Nat) "CoinKeeperModel" "sigLong" "I" ∈ gw := gw_of (mt_7 _ (List.mem_of_getElem? (i := 65) rfl)) rfl
theorem gw_1506 : Jvm.Cond.fieldLink "CoinKeeperModel" (231 : Nat) "CoinKeeperModel" "message" "[B" ∈ gw := gw_of (mt_7 _ (List.mem_of_getElem? (i := 66) rfl)) rfl
theorem gw_1507 : Jvm.Cond.fieldLink "CoinKeeperModel" (234 : Nat) "CoinKeeperModel" "tOutAt" "[I" ∈ gw := gw_of (mt_7 _ (List.mem_of_getElem? (i := 67) rfl)) rfl
theorem gw_1508 : Jvm.Cond.fieldLink "CoinKeeperModel" (543 : Nat) "CoinKeeperModel" "at" "I" ∈ gw := gw_of (mt_7 _ (List.mem_of_getElem? (i := 68) rfl)) rfl
theorem gw_1509 : Jvm.Cond.fieldLink "CoinKeeperModel" (540 : Nat) "CoinKeeperModel" "end" "I" ∈ gw := gw_of (mt_7 _ (List.mem_of_getElem? (i := 69) rfl)) rfl
theorem gw_1510 : Jvm.Cond.fieldLink "CoinKeeperModel" (546 : Nat) "CoinKeeperModel" "isWrong" "Z" ∈ gw := gw_of (mt_7 _ (List.mem_of_getElem? (i := 70) rfl)) rfl
theorem gw_1511 : Jvm.Cond.fieldLink "CoinKeeperModel" (237 : Nat) "CoinKeeperModel" "times11" "[I" ∈ gw := gw_of (mt_7 _ (List.mem_of_getElem? (i := 71) rfl)) rfl
theorem gw_1512 : Jvm.Cond.fieldLink "CoinKeeperModel" (240 : Nat) "CoinKeeperModel" "level" "[I" ∈ gw := gw_of (mt_7 _ (List.mem_of_getElem? (i := 72) rfl)) rfl
theorem gw_1513 : Jvm.Cond.fieldLink "CoinKeeperModel" (243 : Nat) "CoinKeeperModel" "pair" "[B" ∈ gw := gw_of (mt_7 _ (List.mem_of_getElem? (i := 73) rfl)) rfl
theorem gw_1514 : Jvm.Cond.fieldLink "CoinKeeperModel" (635 : Nat) "CoinKeeperModel" "entries" "I" ∈ gw := gw_of (mt_7 _ (List.mem_of_getElem? (i := 74) rfl)) rfl
theorem gw_1515 : Jvm.Cond.fieldLink "CoinKeeperModel" (246 : Nat) "CoinKeeperModel" "id" "[B" ∈ gw := gw_of (mt_7 _ (List.mem_of_getElem? (i := 75) rfl)) rfl
theorem gw_1516 : Jvm.Cond.fieldLink "CoinKeeperModel" (249 : Nat) "CoinKeeperModel" "way" "[I" ∈ gw := gw_of (mt_7 _ (List.mem_of_getElem? (i := 76) rfl)) rfl
theorem gw_1517 : Jvm.Cond.laysFinal "CoinKeeperModel" "CoinKeeperModel" "row" "[B" ∈ gw := gw_of (mt_7 _ (List.mem_of_getElem? (i := 77) rfl)) rfl
theorem gw_1518 : Jvm.Cond.soleField "CoinKeeperModel" "row" ∈ gw := gw_of (mt_7 _ (List.mem_of_getElem? (i := 78) rfl)) rfl
theorem gw_1519 : Jvm.Cond.laysFinal "CoinKeeperModel" "CoinKeeperModel" "store" "[B" ∈ gw := gw_of (mt_7 _ (List.mem_of_getElem? (i := 79) rfl)) rfl
theorem gw_1520 : Jvm.Cond.soleField "CoinKeeperModel" "store" ∈ gw := gw_of (mt_7 _ (List.mem_of_getElem? (i := 80) rfl)) rfl
theorem gw_1521 : Jvm.Cond.lays "CoinKeeperModel" "CoinKeeperModel" "rows" "I" ∈ gw := gw_of (mt_7 _ (List.mem_of_getElem? (i := 81) rfl)) rfl
theorem gw_1522 : Jvm.Cond.soleField "CoinKeeperModel" "rows" ∈ gw := gw_of (mt_7 _ (List.mem_of_getElem? (i := 82) rfl)) rfl
theorem gw_1523 : Jvm.Cond.lays "CoinKeeperModel" "CoinKeeperModel" "used" "I" ∈ gw := gw_of (mt_7 _ (List.mem_of_getElem? (i := 83) rfl)) rfl
theorem gw_1524 : Jvm.Cond.soleField "CoinKeeperModel" "used" ∈ gw := gw_of (mt_7 _ (List.mem_of_getElem? (i := 84) rfl)) rfl
theorem gw_1525 : Jvm.Cond.lays "CoinKeeperModel" "CoinKeeperModel" "thrown" "I" ∈ gw := gw_of (mt_7 _ (List.mem_of_getElem? (i := 85) rfl)) rfl
theorem gw_1526 : Jvm.Cond.soleField "CoinKeeperModel" "thrown" ∈ gw := gw_of (mt_7 _ (List.mem_of_getElem? (i := 86) rfl)) rfl
theorem gw_1527 : Jvm.Cond.laysFinal "CoinKeeperModel" "CoinKeeperModel" "bAt" "[I" ∈ gw := gw_of (mt_7 _ (List.mem_of_getElem? (i := 87) rfl)) rfl
theorem gw_1528 : Jvm.Cond.soleField "CoinKeeperModel" "bAt" ∈ gw := gw_of (mt_7 _ (List.mem_of_getElem? (i := 88) rfl)) rfl
theorem gw_1529 : Jvm.Cond.laysFinal "CoinKeeperModel" "CoinKeeperModel" "parent" "[I" ∈ gw := gw_of (mt_7 _ (List.mem_of_getElem? (i := 89) rfl)) rfl
theorem gw_1530 : Jvm.Cond.soleField "CoinKeeperModel" "parent" ∈ gw := gw_of (mt_7 _ (List.mem_of_getElem? (i := 90) rfl)) rfl
theorem gw_1531 : Jvm.Cond.laysFinal "CoinKeeperModel" "CoinKeeperModel" "height" "[I" ∈ gw := gw_of (mt_7 _ (List.mem_of_getElem? (i := 91) rfl)) rfl
theorem gw_1532 : Jvm.Cond.soleField "CoinKeeperModel" "height" ∈ gw := gw_of (mt_7 _ (List.mem_of_getElem? (i := 92) rfl)) rfl
theorem gw_1533 : Jvm.Cond.laysFinal "CoinKeeperModel" "CoinKeeperModel" "time" "[I" ∈ gw := gw_of (mt_7 _ (List.mem_of_getElem? (i := 93) rfl)) rfl
theorem gw_1534 : Jvm.Cond.soleField "CoinKeeperModel" "time" ∈ gw := gw_of (mt_7 _ (List.mem_of_getElem? (i := 94) rfl)) rfl
theorem gw_1535 : Jvm.Cond.laysFinal "CoinKeeperModel" "CoinKeeperModel" "bits" "[I" ∈ gw := gw_of (mt_7 _ (List.mem_of_getElem? (i := 95) rfl)) rfl
theorem gw_1536 : Jvm.Cond.soleField "CoinKeeperModel" "bits" ∈ gw := gw_of (mt_7 _ (List.mem_of_getElem? (i := 96) rfl)) rfl
theorem gw_1537 : Jvm.Cond.laysFinal "CoinKeeperModel" "CoinKeeperModel" "bTx" "[I" ∈ gw := gw_of (mt_7 _ (List.mem_of_getElem? (i := 97) rfl)) rfl
theorem gw_1538 : Jvm.Cond.soleField "CoinKeeperModel" "bTx" ∈ gw := gw_of (mt_7 _ (List.mem_of_getElem? (i := 98) rfl)) rfl
theorem gw_1539 : Jvm.Cond.laysFinal "CoinKeeperModel" "CoinKeeperModel" "bTxs" "[I" ∈ gw := gw_of (mt_7 _ (List.mem_of_getElem? (i := 99) rfl)) rfl
theorem gw_1540 : Jvm.Cond.soleField "CoinKeeperModel" "bTxs" ∈ gw := gw_of (mt_7 _ (List.mem_of_getElem? (i := 100) rfl)) rfl
theorem gw_1541 : Jvm.Cond.laysFinal "CoinKeeperModel" "CoinKeeperModel" "bId" "[I" ∈ gw := gw_of (mt_7 _ (List.mem_of_getElem? (i := 101) rfl)) rfl
theorem gw_1542 : Jvm.Cond.soleField "CoinKeeperModel" "bId" ∈ gw := gw_of (mt_7 _ (List.mem_of_getElem? (i := 102) rfl)) rfl
theorem gw_1543 : Jvm.Cond.laysFinal "CoinKeeperModel" "CoinKeeperModel" "work" "[I" ∈ gw := gw_of (mt_7 _ (List.mem_of_getElem? (i := 103) rfl)) rfl
theorem gw_1544 : Jvm.Cond.soleField "CoinKeeperModel" "work" ∈ gw := gw_of (mt_7 _ (List.mem_of_getElem? (i := 104) rfl)) rfl
theorem gw_1545 : Jvm.Cond.laysFinal "CoinKeeperModel" "CoinKeeperModel" "isBad" "[Z" ∈ gw := gw_of (mt_7 _ (List.mem_of_getElem? (i := 105) rfl)) rfl
theorem gw_1546 : Jvm.Cond.soleField "CoinKeeperModel" "isBad" ∈ gw := gw_of (mt_7 _ (List.mem_of_getElem? (i := 106) rfl)) rfl
theorem gw_1547 : Jvm.Cond.lays "CoinKeeperModel" "CoinKeeperModel" "blocks" "I" ∈ gw := gw_of (mt_7 _ (List.mem_of_getElem? (i := 107) rfl)) rfl
theorem gw_1548 : Jvm.Cond.soleField "CoinKeeperModel" "blocks" ∈ gw := gw_of (mt_7 _ (List.mem_of_getElem? (i := 108) rfl)) rfl
theorem gw_1549 : Jvm.Cond.lays "CoinKeeperModel" "CoinKeeperModel" "tip" "I" ∈ gw := gw_of (mt_7 _ (List.mem_of_getElem? (i := 109) rfl)) rfl
theorem gw_1550 : Jvm.Cond.soleField "CoinKeeperModel" "tip" ∈ gw := gw_of (mt_7 _ (List.mem_of_getElem? (i := 110) rfl)) rfl
theorem gw_1551 : Jvm.Cond.laysFinal "CoinKeeperModel" "CoinKeeperModel" "tAt" "[I" ∈ gw := gw_of (mt_7 _ (List.mem_of_getElem? (i := 111) rfl)) rfl
theorem gw_1552 : Jvm.Cond.soleField "CoinKeeperModel" "tAt" ∈ gw := gw_of (mt_7 _ (List.mem_of_getElem? (i := 112) rfl)) rfl
theorem gw_1553 : Jvm.Cond.laysFinal "CoinKeeperModel" "CoinKeeperModel" "tSize" "[I" ∈ gw := gw_of (mt_7 _ (List.mem_of_getElem? (i := 113) rfl)) rfl
theorem gw_1554 : Jvm.Cond.soleField "CoinKeeperModel" "tSize" ∈ gw := gw_of (mt_7 _ (List.mem_of_getElem? (i := 114) rfl)) rfl
theorem gw_1555 : Jvm.Cond.laysFinal "CoinKeeperModel" "CoinKeeperModel" "tId" "[I" ∈ gw := gw_of (mt_7 _ (List.mem_of_getElem? (i := 115) rfl)) rfl
theorem gw_1556 : Jvm.Cond.soleField "CoinKeeperModel" "tId" ∈ gw := gw_of (mt_7 _ (List.mem_of_getElem? (i := 116) rfl)) rfl
theorem gw_1557 : Jvm.Cond.laysFinal "CoinKeeperModel" "CoinKeeperModel" "tIn" "[I" ∈ gw := gw_of (mt_7 _ (List.mem_of_getElem? (i := 117) rfl)) rfl
theorem gw_1558 : Jvm.Cond.soleField "CoinKeeperModel" "tIn" ∈ gw := gw_of (mt_7 _ (List.mem_of_getElem? (i := 118) rfl)) rfl
theorem gw_1559 : Jvm.Cond.laysFinal "CoinKeeperModel" "CoinKeeperModel" "tIns" "[I" ∈ gw := gw_of (mt_7 _ (List.mem_of_getElem? (i := 119) rfl)) rfl
theorem gw_1560 : Jvm.Cond.soleField "CoinKeeperModel" "tIns" ∈ gw := gw_of (mt_7 _ (List.mem_of_getElem? (i := 120) rfl)) rfl
theorem gw_1561 : Jvm.Cond.laysFinal "CoinKeeperModel" "CoinKeeperModel" "tOut" "[I" ∈ gw := gw_of (mt_7 _ (List.mem_of_getElem? (i := 121) rfl)) rfl
theorem gw_1562 : Jvm.Cond.soleField "CoinKeeperModel" "tOut" ∈ gw := gw_of (mt_7 _ (List.mem_of_getElem? (i := 122) rfl)) rfl
theorem gw_1563 : Jvm.Cond.laysFinal "CoinKeeperModel" "CoinKeeperModel" "tOuts" "[I" ∈ gw := gw_of (mt_7 _ (List.mem_of_getElem? (i := 123) rfl)) rfl
theorem gw_1564 : Jvm.Cond.soleField "CoinKeeperModel" "tOuts" ∈ gw := gw_of (mt_7 _ (List.mem_of_getElem? (i := 124) rfl)) rfl
theorem gw_1565 : Jvm.Cond.laysFinal "CoinKeeperModel" "CoinKeeperModel" "tLock" "[I" ∈ gw := gw_of (mt_7 _ (List.mem_of_getElem? (i := 125) rfl)) rfl
theorem gw_1566 : Jvm.Cond.soleField "CoinKeeperModel" "tLock" ∈ gw := gw_of (mt_7 _ (List.mem_of_getElem? (i := 126) rfl)) rfl
theorem gw_1567 : Jvm.Cond.lays "CoinKeeperModel" "CoinKeeperModel" "txs" "I" ∈ gw := gw_of (mt_7 _ (List.mem_of_getElem? (i := 127) rfl)) rfl
theorem gw_1568 : Jvm.Cond.soleField "CoinKeeperModel" "txs" ∈ gw := gw_of (mt_7 _ (List.mem_of_getElem? (i := 128) rfl)) rfl
theorem gw_1569 : Jvm.Cond.laysFinal "CoinKeeperModel" "CoinKeeperModel" "iAt" "[I" ∈ gw := gw_of (mt_7 _ (List.mem_of_getElem? (i := 129) rfl)) rfl
theorem gw_1570 : Jvm.Cond.soleField "CoinKeeperModel" "iAt" ∈ gw := gw_of (mt_7 _ (List.mem_of_getElem? (i := 130) rfl)) rfl
theorem gw_1571 : Jvm.Cond.laysFinal "CoinKeeperModel" "CoinKeeperModel" "iScript" "[I" ∈ gw := gw_of (mt_7 _ (List.mem_of_getElem? (i := 131) rfl)) rfl
theorem gw_1572 : Jvm.Cond.soleField "CoinKeeperModel" "iScript" ∈ gw := gw_of (mt_7 _ (List.mem_of_getElem? (i := 132) rfl)) rfl
theorem gw_1573 : Jvm.Cond.laysFinal "CoinKeeperModel" "CoinKeeperModel" "iLong" "[I" ∈ gw := gw_of (mt_7 _ (List.mem_of_getElem? (i := 133) rfl)) rfl
theorem gw_1574 : Jvm.Cond.soleField "CoinKeeperModel" "iLong" ∈ gw := gw_of (mt_7 _ (List.mem_of_getElem? (i := 134) rfl)) rfl
theorem gw_1575 : Jvm.Cond.laysFinal "CoinKeeperModel" "CoinKeeperModel" "iSequence" "[I" ∈ gw := gw_of (mt_7 _ (List.mem_of_getElem? (i := 135) rfl)) rfl
theorem gw_1576 : Jvm.Cond.soleField "CoinKeeperModel" "iSequence" ∈ gw := gw_of (mt_7 _ (List.mem_of_getElem? (i := 136) rfl)) rfl
theorem gw_1577 : Jvm.Cond.laysFinal "CoinKeeperModel" "CoinKeeperModel" "iFine" "[B" ∈ gw := gw_of (mt_7 _ (List.mem_of_getElem? (i := 137) rfl)) rfl
theorem gw_1578 : Jvm.Cond.soleField "CoinKeeperModel" "iFine" ∈ gw := gw_of (mt_7 _ (List.mem_of_getElem? (i := 138) rfl)) rfl
theorem gw_1579 : Jvm.Cond.lays "CoinKeeperModel" "CoinKeeperModel" "inputs" "I" ∈ gw := gw_of (mt_7 _ (List.mem_of_getElem? (i := 139) rfl)) rfl
theorem gw_1580 : Jvm.Cond.soleField "CoinKeeperModel" "inputs" ∈ gw := gw_of (mt_7 _ (List.mem_of_getElem? (i := 140) rfl)) rfl
theorem gw_1581 : Jvm.Cond.laysFinal "CoinKeeperModel" "CoinKeeperModel" "oValue" "[J" ∈ gw := gw_of (mt_7 _ (List.mem_of_getElem? (i := 141) rfl)) rfl
theorem gw_1582 : Jvm.Cond.soleField "CoinKeeperModel" "oValue" ∈ gw := gw_of (mt_7 _ (List.mem_of_getElem? (i := 142) rfl)) rfl
theorem gw_1583 : Jvm.Cond.laysFinal "CoinKeeperModel" "CoinKeeperModel" "oScript" "[I" ∈ gw := gw_of (mt_7 _ (List.mem_of_getElem? (i := 143) rfl)) rfl
theorem gw_1584 : Jvm.Cond.soleField "CoinKeeperModel" "oScript" ∈ gw := gw_of (mt_7 _ (List.mem_of_getElem? (i := 144) rfl)) rfl
theorem gw_1585 : Jvm.Cond.laysFinal "CoinKeeperModel" "CoinKeeperModel" "oLong" "[I" ∈ gw := gw_of (mt_7 _ (List.mem_of_getElem? (i := 145) rfl)) rfl
theorem gw_1586 : Jvm.Cond.soleField "CoinKeeperModel" "oLong" ∈ gw := gw_of (mt_7 _ (List.mem_of_getElem? (i := 146) rfl)) rfl
theorem gw_1587 : Jvm.Cond.laysFinal "CoinKeeperModel" "CoinKeeperModel" "oTx" "[I" ∈ gw := gw_of (mt_7 _ (List.mem_of_getElem? (i := 147) rfl)) rfl
theorem gw_1588 : Jvm.Cond.soleField "CoinKeeperModel" "oTx" ∈ gw := gw_of (mt_7 _ (List.mem_of_getElem? (i := 148) rfl)) rfl
theorem gw_1589 : Jvm.Cond.lays "CoinKeeperModel" "CoinKeeperModel" "outputs" "I" ∈ gw := gw_of (mt_7 _ (List.mem_of_getElem? (i := 149) rfl)) rfl
theorem gw_1590 : Jvm.Cond.soleField "CoinKeeperModel" "outputs" ∈ gw := gw_of (mt_7 _ (List.mem_of_getElem? (i := 150) rfl)) rfl
theorem gw_1591 : Jvm.Cond.laysFinal "CoinKeeperModel" "CoinKeeperModel" "uOutput" "[I" ∈ gw := gw_of (mt_7 _ (List.mem_of_getElem? (i := 151) rfl)) rfl
theorem gw_1592 : Jvm.Cond.soleField "CoinKeeperModel" "uOutput" ∈ gw := gw_of (mt_7 _ (List.mem_of_getElem? (i := 152) rfl)) rfl
theorem gw_1593 : Jvm.Cond.laysFinal "CoinKeeperModel" "CoinKeeperModel" "uHeight" "[I" ∈ gw := gw_of (mt_7 _ (List.mem_of_getElem? (i := 153) rfl)) rfl
theorem gw_1594 : Jvm.Cond.soleField "CoinKeeperModel" "uHeight" ∈ gw := gw_of (mt_7 _ (List.mem_of_getElem? (i := 154) rfl)) rfl
theorem gw_1595 : Jvm.Cond.laysFinal "CoinKeeperModel" "CoinKeeperModel" "uNext" "[I" ∈ gw := gw_of (mt_7 _ (List.mem_of_getElem? (i := 155) rfl)) rfl
theorem gw_1596 : Jvm.Cond.soleField "CoinKeeperModel" "uNext" ∈ gw := gw_of (mt_7 _ (List.mem_of_getElem? (i := 156) rfl)) rfl
theorem gw_1597 : Jvm.Cond.laysFinal "CoinKeeperModel" "CoinKeeperModel" "chain" "[I" ∈ gw := gw_of (mt_7 _ (List.mem_of_getElem? (i := 157) rfl)) rfl
theorem gw_1598 : Jvm.Cond.soleField "CoinKeeperModel" "chain" ∈ gw := gw_of (mt_7 _ (List.mem_of_getElem? (i := 158) rfl)) rfl
theorem gw_1599 : Jvm.Cond.laysFinal "CoinKeeperModel" "CoinKeeperModel" "uIs" "[Z" ∈ gw := gw_of (mt_7 _ (List.mem_of_getElem? (i := 159) rfl)) rfl
theorem gw_1600 : Jvm.Cond.soleField "CoinKeeperModel" "uIs" ∈ gw := gw_of (mt_7 _ (List.mem_of_getElem? (i := 160) rfl)) rfl
theorem gw_1601 : Jvm.Cond.laysFinal "CoinKeeperModel" "CoinKeeperModel" "s" "[I" ∈ gw := gw_of (mt_7 _ (List.mem_of_getElem? (i := 161) rfl)) rfl
theorem gw_1602 : Jvm.Cond.soleField "CoinKeeperModel" "s" ∈ gw := gw_of (mt_7 _ (List.mem_of_getElem? (i := 162) rfl)) rfl
theorem gw_1603 : Jvm.Cond.laysFinal "CoinKeeperModel" "CoinKeeperModel" "w" "[I" ∈ gw := gw_of (mt_7 _ (List.mem_of_getElem? (i := 163) rfl)) rfl
theorem gw_1604 : Jvm.Cond.soleField "CoinKeeperModel" "w" ∈ gw := gw_of (mt_7 _ (List.mem_of_getElem? (i := 164) rfl)) rfl
theorem gw_1605 : Jvm.Cond.laysFinal "CoinKeeperModel" "CoinKeeperModel" "hash" "[B" ∈ gw := gw_of (mt_7 _ (List.mem_of_getElem? (i := 165) rfl)) rfl
theorem gw_1606 : Jvm.Cond.soleField "CoinKeeperModel" "hash" ∈ gw := gw_of (mt_7 _ (List.mem_of_getElem? (i := 166) rfl)) rfl
theorem gw_1607 : Jvm.Cond.laysFinal "CoinKeeperModel" "CoinKeeperModel" "padded" "[B" ∈ gw := gw_of (mt_7 _ (List.mem_of_getElem? (i := 167) rfl)) rfl
theorem gw_1608 : Jvm.Cond.soleField "CoinKeeperModel" "padded" ∈ gw := gw_of (mt_7 _ (List.mem_of_getElem? (i := 168) rfl)) rfl
theorem gw_1609 : Jvm.Cond.laysFinal "CoinKeeperModel" "CoinKeeperModel" "target" "[I" ∈ gw := gw_of (mt_7 _ (List.mem_of_getElem? (i := 169) rfl)) rfl
theorem gw_1610 : Jvm.Cond.soleField "CoinKeeperModel" "target" ∈ gw := gw_of (mt_7 _ (List.mem_of_getElem? (i := 170) rfl)) rfl
theorem gw_1611 : Jvm.Cond.laysFinal "CoinKeeperModel" "CoinKeeperModel" "one" "[I" ∈ gw := gw_of (mt_7 _ (List.mem_of_getElem? (i := 171) rfl)) rfl
theorem gw_1612 : Jvm.Cond.soleField "CoinKeeperModel" "one" ∈ gw := gw_of (mt_7 _ (List.mem_of_getElem? (i := 172) rfl)) rfl
theorem gw_1613 : Jvm.Cond.laysFinal "CoinKeeperModel" "CoinKeeperModel" "number" "[I" ∈ gw := gw_of (mt_7 _ (List.mem_of_getElem? (i := 173) rfl)) rfl
theorem gw_1614 : Jvm.Cond.soleField "CoinKeeperModel" "number" ∈ gw := gw_of (mt_7 _ (List.mem_of_getElem? (i := 174) rfl)) rfl
theorem gw_1615 : Jvm.Cond.laysFinal "CoinKeeperModel" "CoinKeeperModel" "rest" "[I" ∈ gw := gw_of (mt_7 _ (List.mem_of_getElem? (i := 175) rfl)) rfl
theorem gw_1616 : Jvm.Cond.soleField "CoinKeeperModel" "rest" ∈ gw := gw_of (mt_7 _ (List.mem_of_getElem? (i := 176) rfl)) rfl
theorem gw_1617 : Jvm.Cond.laysFinal "CoinKeeperModel" "CoinKeeperModel" "quotient" "[I" ∈ gw := gw_of (mt_7 _ (List.mem_of_getElem? (i := 177) rfl)) rfl
theorem gw_1618 : Jvm.Cond.soleField "CoinKeeperModel" "quotient" ∈ gw := gw_of (mt_7 _ (List.mem_of_getElem? (i := 178) rfl)) rfl
theorem gw_1619 : Jvm.Cond.laysFinal "CoinKeeperModel" "CoinKeeperModel" "divisor" "[I" ∈ gw := gw_of (mt_7 _ (List.mem_of_getElem? (i := 179) rfl)) rfl
theorem gw_1620 : Jvm.Cond.soleField "CoinKeeperModel" "divisor" ∈ gw := gw_of (mt_7 _ (List.mem_of_getElem? (i := 180) rfl)) rfl
theorem gw_1621 : Jvm.Cond.laysFinal "CoinKeeperModel" "CoinKeeperModel" "x1" "[I" ∈ gw := gw_of (mt_7 _ (List.mem_of_getElem? (i := 181) rfl)) rfl
theorem gw_1622 : Jvm.Cond.soleField "CoinKeeperModel" "x1" ∈ gw := gw_of (mt_7 _ (List.mem_of_getElem? (i := 182) rfl)) rfl
theorem gw_1623 : Jvm.Cond.laysFinal "CoinKeeperModel" "CoinKeeperModel" "x2" "[I" ∈ gw := gw_of (mt_7 _ (List.mem_of_getElem? (i := 183) rfl)) rfl
theorem gw_1624 : Jvm.Cond.soleField "CoinKeeperModel" "x2" ∈ gw := gw_of (mt_7 _ (List.mem_of_getElem? (i := 184) rfl)) rfl
theorem gw_1625 : Jvm.Cond.laysFinal "CoinKeeperModel" "CoinKeeperModel" "y1" "[I" ∈ gw := gw_of (mt_7 _ (List.mem_of_getElem? (i := 185) rfl)) rfl
theorem gw_1626 : Jvm.Cond.soleField "CoinKeeperModel" "y1" ∈ gw := gw_of (mt_7 _ (List.mem_of_getElem? (i := 186) rfl)) rfl
theorem gw_1627 : Jvm.Cond.laysFinal "CoinKeeperModel" "CoinKeeperModel" "y2" "[I" ∈ gw := gw_of (mt_7 _ (List.mem_of_getElem? (i := 187) rfl)) rfl
theorem gw_1628 : Jvm.Cond.soleField "CoinKeeperModel" "y2" ∈ gw := gw_of (mt_7 _ (List.mem_of_getElem? (i := 188) rfl)) rfl
theorem gw_1629 : Jvm.Cond.laysFinal "CoinKeeperModel" "CoinKeeperModel" "uu" "[I" ∈ gw := gw_of (mt_7 _ (List.mem_of_getElem? (i := 189) rfl)) rfl
theorem gw_1630 : Jvm.Cond.soleField "CoinKeeperModel" "uu" ∈ gw := gw_of (mt_7 _ (List.mem_of_getElem? (i := 190) rfl)) rfl
theorem gw_1631 : Jvm.Cond.laysFinal "CoinKeeperModel" "CoinKeeperModel" "vv" "[I" ∈ gw := gw_of (mt_7 _ (List.mem_of_getElem? (i := 191) rfl)) rfl
theorem gw_1632 : Jvm.Cond.soleField "CoinKeeperModel" "vv" ∈ gw := gw_of (mt_7 _ (List.mem_of_getElem? (i := 192) rfl)) rfl
theorem gw_1633 : Jvm.Cond.laysFinal "CoinKeeperModel" "CoinKeeperModel" "product" "[I" ∈ gw := gw_of (mt_7 _ (List.mem_of_getElem? (i := 193) rfl)) rfl
theorem gw_1634 : Jvm.Cond.soleField "CoinKeeperModel" "product" ∈ gw := gw_of (mt_7 _ (List.mem_of_getElem? (i := 194) rfl)) rfl
theorem gw_1635 : Jvm.Cond.laysFinal "CoinKeeperModel" "CoinKeeperModel" "slope" "[I" ∈ gw := gw_of (mt_7 _ (List.mem_of_getElem? (i := 195) rfl)) rfl
theorem gw_1636 : Jvm.Cond.soleField "CoinKeeperModel" "slope" ∈ gw := gw_of (mt_7 _ (List.mem_of_getElem? (i := 196) rfl)) rfl
theorem gw_1637 : Jvm.Cond.laysFinal "CoinKeeperModel" "CoinKeeperModel" "t1" "[I" ∈ gw := gw_of (mt_7 _ (List.mem_of_getElem? (i := 197) rfl)) rfl
theorem gw_1638 : Jvm.Cond.soleField "CoinKeeperModel" "t1" ∈ gw := gw_of (mt_7 _ (List.mem_of_getElem? (i := 198) rfl)) rfl
theorem gw_1639 : Jvm.Cond.laysFinal "CoinKeeperModel" "CoinKeeperModel" "t2" "[I" ∈ gw := gw_of (mt_7 _ (List.mem_of_getElem? (i := 199) rfl)) rfl
theorem gw_1640 : Jvm.Cond.soleField "CoinKeeperModel" "t2" ∈ gw := gw_of (mt_7 _ (List.mem_of_getElem? (i := 200) rfl)) rfl
theorem gw_1641 : Jvm.Cond.laysFinal "CoinKeeperModel" "CoinKeeperModel" "t3" "[I" ∈ gw := gw_of (mt_7 _ (List.mem_of_getElem? (i := 201) rfl)) rfl
theorem gw_1642 : Jvm.Cond.soleField "CoinKeeperModel" "t3" ∈ gw := gw_of (mt_7 _ (List.mem_of_getElem? (i := 202) rfl)) rfl
theorem gw_1643 : Jvm.Cond.laysFinal "CoinKeeperModel" "CoinKeeperModel" "qx" "[I" ∈ gw := gw_of (mt_7 _ (List.mem_of_getElem? (i := 203) rfl)) rfl
theorem gw_1644 : Jvm.Cond.soleField "CoinKeeperModel" "qx" ∈ gw := gw_of (mt_7 _ (List.mem_of_getElem? (i := 204) rfl)) rfl
theorem gw_1645 : Jvm.Cond.laysFinal "CoinKeeperModel" "CoinKeeperModel" "qy" "[I" ∈ gw := gw_of (mt_7 _ (List.mem_of_getElem? (i := 205) rfl)) rfl
theorem gw_1646 : Jvm.Cond.soleField "CoinKeeperModel" "qy" ∈ gw := gw_of (mt_7 _ (List.mem_of_getElem? (i := 206) rfl)) rfl
theorem gw_1647 : Jvm.Cond.laysFinal "CoinKeeperModel" "CoinKeeperModel" "sx" "[I" ∈ gw := gw_of (mt_7 _ (List.mem_of_getElem? (i := 207) rfl)) rfl
theorem gw_1648 : Jvm.Cond.soleField "CoinKeeperModel" "sx" ∈ gw := gw_of (mt_7 _ (List.mem_of_getElem? (i := 208) rfl)) rfl
theorem gw_1649 : Jvm.Cond.laysFinal "CoinKeeperModel" "CoinKeeperModel" "sy" "[I" ∈ gw := gw_of (mt_7 _ (List.mem_of_getElem? (i := 209) rfl)) rfl
theorem gw_1650 : Jvm.Cond.soleField "CoinKeeperModel" "sy" ∈ gw := gw_of (mt_7 _ (List.mem_of_getElem? (i := 210) rfl)) rfl
theorem gw_1651 : Jvm.Cond.laysFinal "CoinKeeperModel" "CoinKeeperModel" "rx" "[I" ∈ gw := gw_of (mt_7 _ (List.mem_of_getElem? (i := 211) rfl)) rfl
theorem gw_1652 : Jvm.Cond.soleField "CoinKeeperModel" "rx" ∈ gw := gw_of (mt_7 _ (List.mem_of_getElem? (i := 212) rfl)) rfl
theorem gw_1653 : Jvm.Cond.laysFinal "CoinKeeperModel" "CoinKeeperModel" "ry" "[I" ∈ gw := gw_of (mt_7 _ (List.mem_of_getElem? (i := 213) rfl)) rfl
theorem gw_1654 : Jvm.Cond.soleField "CoinKeeperModel" "ry" ∈ gw := gw_of (mt_7 _ (List.mem_of_getElem? (i := 214) rfl)) rfl
theorem gw_1655 : Jvm.Cond.laysFinal "CoinKeeperModel" "CoinKeeperModel" "er" "[I" ∈ gw := gw_of (mt_7 _ (List.mem_of_getElem? (i := 215) rfl)) rfl
theorem gw_1656 : Jvm.Cond.soleField "CoinKeeperModel" "er" ∈ gw := gw_of (mt_7 _ (List.mem_of_getElem? (i := 216) rfl)) rfl
theorem gw_1657 : Jvm.Cond.laysFinal "CoinKeeperModel" "CoinKeeperModel" "es" "[I" ∈ gw := gw_of (mt_7 _ (List.mem_of_getElem? (i := 217) rfl)) rfl
theorem gw_1658 : Jvm.Cond.soleField "CoinKeeperModel" "es" ∈ gw := gw_of (mt_7 _ (List.mem_of_getElem? (i := 218) rfl)) rfl
theorem gw_1659 : Jvm.Cond.laysFinal "CoinKeeperModel" "CoinKeeperModel" "ew" "[I" ∈ gw := gw_of (mt_7 _ (List.mem_of_getElem? (i := 219) rfl)) rfl
theorem gw_1660 : Jvm.Cond.soleField "CoinKeeperModel" "ew" ∈ gw := gw_of (mt_7 _ (List.mem_of_getElem? (i := 220) rfl)) rfl
theorem gw_1661 : Jvm.Cond.laysFinal "CoinKeeperModel" "CoinKeeperModel" "e1" "[I" ∈ gw := gw_of (mt_7 _ (List.mem_of_getElem? (i := 221) rfl)) rfl
theorem gw_1662 : Jvm.Cond.soleField "CoinKeeperModel" "e1" ∈ gw := gw_of (mt_7 _ (List.mem_of_getElem? (i := 222) rfl)) rfl
theorem gw_1663 : Jvm.Cond.laysFinal "CoinKeeperModel" "CoinKeeperModel" "e2" "[I" ∈ gw := gw_of (mt_7 _ (List.mem_of_getElem? (i := 223) rfl)) rfl
theorem gw_1664 : Jvm.Cond.soleField "CoinKeeperModel" "e2" ∈ gw := gw_of (mt_7 _ (List.mem_of_getElem? (i := 224) rfl)) rfl
theorem gw_1665 : Jvm.Cond.lays "CoinKeeperModel" "CoinKeeperModel" "isFar" "Z" ∈ gw := gw_of (mt_7 _ (List.mem_of_getElem? (i := 225) rfl)) rfl
theorem gw_1666 : Jvm.Cond.soleField "CoinKeeperModel" "isFar" ∈ gw := gw_of (mt_7 _ (List.mem_of_getElem? (i := 226) rfl)) rfl
theorem gw_1667 : Jvm.Cond.laysFinal "CoinKeeperModel" "CoinKeeperModel" "ia" "[I" ∈ gw := gw_of (mt_7 _ (List.mem_of_getElem? (i := 227) rfl)) rfl
theorem gw_1668 : Jvm.Cond.soleField "CoinKeeperModel" "ia" ∈ gw := gw_of (mt_7 _ (List.mem_of_getElem? (i := 228) rfl)) rfl
theorem gw_1669 : Jvm.Cond.laysFinal "CoinKeeperModel" "CoinKeeperModel" "ib" "[I" ∈ gw := gw_of (mt_7 _ (List.mem_of_getElem? (i := 229) rfl)) rfl
theorem gw_1670 : Jvm.Cond.soleField "CoinKeeperModel" "ib" ∈ gw := gw_of (mt_7 _ (List.mem_of_getElem? (i := 230) rfl)) rfl
theorem gw_1671 : Jvm.Cond.laysFinal "CoinKeeperModel" "CoinKeeperModel" "thing" "[B" ∈ gw := gw_of (mt_7 _ (List.mem_of_getElem? (i := 231) rfl)) rfl
theorem gw_1672 : Jvm.Cond.soleField "CoinKeeperModel" "thing" ∈ gw := gw_of (mt_7 _ (List.mem_of_getElem? (i := 232) rfl)) rfl
theorem gw_1673 : Jvm.Cond.laysFinal "CoinKeeperModel" "CoinKeeperModel" "size" "[I" ∈ gw := gw_of (mt_7 _ (List.mem_of_getElem? (i := 233) rfl)) rfl
theorem gw_1674 : Jvm.Cond.soleField "CoinKeeperModel" "size" ∈ gw := gw_of (mt_7 _ (List.mem_of_getElem? (i := 234) rfl)) rfl
theorem gw_1675 : Jvm.Cond.lays "CoinKeeperModel" "CoinKeeperModel" "deep" "I" ∈ gw := gw_of (mt_7 _ (List.mem_of_getElem? (i := 235) rfl)) rfl
theorem gw_1676 : Jvm.Cond.soleField "CoinKeeperModel" "deep" ∈ gw := gw_of (mt_7 _ (List.mem_of_getElem? (i := 236) rfl)) rfl
theorem gw_1677 : Jvm.Cond.lays "CoinKeeperModel" "CoinKeeperModel" "aside" "I" ∈ gw := gw_of (mt_7 _ (List.mem_of_getElem? (i := 237) rfl)) rfl
theorem gw_1678 : Jvm.Cond.soleField "CoinKeeperModel" "aside" ∈ gw := gw_of (mt_7 _ (List.mem_of_getElem? (i := 238) rfl)) rfl
theorem gw_1679 : Jvm.Cond.lays "CoinKeeperModel" "CoinKeeperModel" "ops" "I" ∈ gw := gw_of (mt_7 _ (List.mem_of_getElem? (i := 239) rfl)) rfl
theorem gw_1680 : Jvm.Cond.soleField "CoinKeeperModel" "ops" ∈ gw := gw_of (mt_8 _ (List.mem_of_getElem? (i := 0) rfl)) rfl
theorem gw_1681 : Jvm.Cond.laysFinal "CoinKeeperModel" "CoinKeeperModel" "taken" "[Z" ∈ gw := gw_of (mt_8 _ (List.mem_of_getElem? (i := 1) rfl)) rfl
theorem gw_1682 : Jvm.Cond.soleField "CoinKeeperModel" "taken" ∈ gw := gw_of (mt_8 _ (List.mem_of_getElem? (i := 2) rfl)) rfl
theorem gw_1683 : Jvm.Cond.lays "CoinKeeperModel" "CoinKeeperModel" "sigInput" "I" ∈ gw := gw_of (mt_8 _ (List.mem_of_getElem? (i := 3) rfl)) rfl
theorem gw_1684 : Jvm.Cond.soleField "CoinKeeperModel" "sigInput" ∈ gw := gw_of (mt_8 _ (List.mem_of_getElem? (i := 4) rfl)) rfl
theorem gw_1685 : Jvm.Cond.lays "CoinKeeperModel" "CoinKeeperModel" "sigTx" "I" ∈ gw := gw_of (mt_8 _ (List.mem_of_getElem? (i := 5) rfl)) rfl
theorem gw_1686 : Jvm.Cond.soleField "CoinKeeperModel" "sigTx" ∈ gw := gw_of (mt_8 _ (List.mem_of_getElem? (i := 6) rfl)) rfl
theorem gw_1687 : Jvm.Cond.lays "CoinKeeperModel" "CoinKeeperModel" "sigScript" "I" ∈ gw := gw_of (mt_8 _ (List.mem_of_getElem? (i := 7) rfl)) rfl
theorem gw_1688 : Jvm.Cond.soleField "CoinKeeperModel" "sigScript" ∈ gw := gw_of (mt_8 _ (List.mem_of_getElem? (i := 8) rfl)) rfl
theorem gw_1689 : Jvm.Cond.lays "CoinKeeperModel" "CoinKeeperModel" "sigLong" "I" ∈ gw := gw_of (mt_8 _ (List.mem_of_getElem? (i := 9) rfl)) rfl
theorem gw_1690 : Jvm.Cond.soleField "CoinKeeperModel" "sigLong" ∈ gw := gw_of (mt_8 _ (List.mem_of_getElem? (i := 10) rfl)) rfl
theorem gw_1691 : Jvm.Cond.laysFinal "CoinKeeperModel" "CoinKeeperModel" "message" "[B" ∈ gw := gw_of (mt_8 _ (List.mem_of_getElem? (i := 11) rfl)) rfl
theorem gw_1692 : Jvm.Cond.soleField "CoinKeeperModel" "message" ∈ gw := gw_of (mt_8 _ (List.mem_of_getElem? (i := 12) rfl)) rfl
theorem gw_1693 : Jvm.Cond.laysFinal "CoinKeeperModel" "CoinKeeperModel" "tOutAt" "[I" ∈ gw := gw_of (mt_8 _ (List.mem_of_getElem? (i := 13) rfl)) rfl
theorem gw_1694 : Jvm.Cond.soleField "CoinKeeperModel" "tOutAt" ∈ gw := gw_of (mt_8 _ (List.mem_of_getElem? (i := 14) rfl)) rfl
theorem gw_1695 : Jvm.Cond.lays "CoinKeeperModel" "CoinKeeperModel" "at" "I" ∈ gw := gw_of (mt_8 _ (List.mem_of_getElem? (i := 15) rfl)) rfl
theorem gw_1696 : Jvm.Cond.soleField "CoinKeeperModel" "at" ∈ gw := gw_of (mt_8 _ (List.mem_of_getElem? (i := 16) rfl)) rfl
theorem gw_1697 : Jvm.Cond.lays "CoinKeeperModel" "CoinKeeperModel" "end" "I" ∈ gw := gw_of (mt_8 _ (List.mem_of_getElem? (i := 17) rfl)) rfl
theorem gw_1698 : Jvm.Cond.soleField "CoinKeeperModel" "end" ∈ gw := gw_of (mt_8 _ (List.mem_of_getElem? (i := 18) rfl)) rfl
theorem gw_1699 : Jvm.Cond.lays "CoinKeeperModel" "CoinKeeperModel" "isWrong" "Z" ∈ gw := gw_of (mt_8 _ (List.mem_of_getElem? (i := 19) rfl)) rfl
theorem gw_1700 : Jvm.Cond.soleField "CoinKeeperModel" "isWrong" ∈ gw := gw_of (mt_8 _ (List.mem_of_getElem? (i := 20) rfl)) rfl
theorem gw_1701 : Jvm.Cond.laysFinal "CoinKeeperModel" "CoinKeeperModel" "times11" "[I" ∈ gw := gw_of (mt_8 _ (List.mem_of_getElem? (i := 21) rfl)) rfl
theorem gw_1702 : Jvm.Cond.soleField "CoinKeeperModel" "times11" ∈ gw := gw_of (mt_8 _ (List.mem_of_getElem? (i := 22) rfl)) rfl
theorem gw_1703 : Jvm.Cond.laysFinal "CoinKeeperModel" "CoinKeeperModel" "level" "[I" ∈ gw := gw_of (mt_8 _ (List.mem_of_getElem? (i := 23) rfl)) rfl
theorem gw_1704 : Jvm.Cond.soleField "CoinKeeperModel" "level" ∈ gw := gw_of (mt_8 _ (List.mem_of_getElem? (i := 24) rfl)) rfl
theorem gw_1705 : Jvm.Cond.laysFinal "CoinKeeperModel" "CoinKeeperModel" "pair" "[B" ∈ gw := gw_of (mt_8 _ (List.mem_of_getElem? (i := 25) rfl)) rfl
theorem gw_1706 : Jvm.Cond.soleField "CoinKeeperModel" "pair" ∈ gw := gw_of (mt_8 _ (List.mem_of_getElem? (i := 26) rfl)) rfl
theorem gw_1707 : Jvm.Cond.lays "CoinKeeperModel" "CoinKeeperModel" "entries" "I" ∈ gw := gw_of (mt_8 _ (List.mem_of_getElem? (i := 27) rfl)) rfl
theorem gw_1708 : Jvm.Cond.soleField "CoinKeeperModel" "entries" ∈ gw := gw_of (mt_8 _ (List.mem_of_getElem? (i := 28) rfl)) rfl
theorem gw_1709 : Jvm.Cond.laysFinal "CoinKeeperModel" "CoinKeeperModel" "id" "[B" ∈ gw := gw_of (mt_8 _ (List.mem_of_getElem? (i := 29) rfl)) rfl
theorem gw_1710 : Jvm.Cond.soleField "CoinKeeperModel" "id" ∈ gw := gw_of (mt_8 _ (List.mem_of_getElem? (i := 30) rfl)) rfl
theorem gw_1711 : Jvm.Cond.laysFinal "CoinKeeperModel" "CoinKeeperModel" "way" "[I" ∈ gw := gw_of (mt_8 _ (List.mem_of_getElem? (i := 31) rfl)) rfl
theorem gw_1712 : Jvm.Cond.soleField "CoinKeeperModel" "way" ∈ gw := gw_of (mt_8 _ (List.mem_of_getElem? (i := 32) rfl)) rfl
theorem gw_1713 : Jvm.Cond.superclass "CoinKeeperModel" "java/lang/Object" ∈ gw := gw_of (mt_8 _ (List.mem_of_getElem? (i := 33) rfl)) rfl
theorem gw_1714 : Jvm.Cond.methodLink "CoinKeeperLaw" (57 : Nat) ({ cls := "CoinKeeperModel", name := "thrown", desc := "()I" } : Jvm.MethodName) ∈ gw := gw_of (mt_8 _ (List.mem_of_getElem? (i := 34) rfl)) rfl
theorem gw_1715 : Jvm.Cond.instanceMethod ({ cls := "CoinKeeperModel", name := "thrown", desc := "()I" } : Jvm.MethodName) ∈ gw := gw_of (mt_8 _ (List.mem_of_getElem? (i := 35) rfl)) rfl
theorem gw_1716 : Jvm.Cond.selects "CoinKeeperModel" ({ cls := "CoinKeeperModel", name := "thrown", desc := "()I" } : Jvm.MethodName) ({ cls := "CoinKeeperModel", name := "thrown", desc := "()I" } : Jvm.MethodName) ∈ gw := gw_of (mt_8 _ (List.mem_of_getElem? (i := 36) rfl)) rfl
theorem gw_1717 : Jvm.Cond.code ({ cls := "CoinKeeperModel", name := "thrown", desc := "()I" } : Jvm.MethodName) prog_14_method_2_code (1 : Nat) (Option.some Jvm.ClassFile.FieldType.int) ∈ gw := gw_of (mt_8 _ (List.mem_of_getElem? (i := 37) rfl)) rfl
theorem gw_1718 : Jvm.Cond.methodLink "CoinKeeperLaw" (56 : Nat) ({ cls := "CoinKeeperModel", name := "feed", desc := "(IIIII)I" } : Jvm.MethodName) ∈ gw := gw_of (mt_8 _ (List.mem_of_getElem? (i := 38) rfl)) rfl
theorem gw_1719 : Jvm.Cond.instanceMethod ({ cls := "CoinKeeperModel", name := "feed", desc := "(IIIII)I" } : Jvm.MethodName) ∈ gw := gw_of (mt_8 _ (List.mem_of_getElem? (i := 39) rfl)) rfl
theorem gw_1720 : Jvm.Cond.selects "CoinKeeperModel" ({ cls := "CoinKeeperModel", name := "feed", desc := "(IIIII)I" } : Jvm.MethodName) ({ cls := "CoinKeeperModel", name := "feed", desc := "(IIIII)I" } : Jvm.MethodName) ∈ gw := gw_of (mt_8 _ (List.mem_of_getElem? (i := 40) rfl)) rfl
theorem gw_1721 : Jvm.Cond.code ({ cls := "CoinKeeperModel", name := "feed", desc := "(IIIII)I" } : Jvm.MethodName) prog_14_method_81_code (6 : Nat) (Option.some Jvm.ClassFile.FieldType.int) ∈ gw := gw_of (mt_8 _ (List.mem_of_getElem? (i := 41) rfl)) rfl
theorem gw_1722 : Jvm.Cond.methodLink "CoinKeeperModel" (659 : Nat) ({ cls := "CoinKeeperModel", name := "four", desc := "(I)V" } : Jvm.MethodName) ∈ gw := gw_of (mt_8 _ (List.mem_of_getElem? (i := 42) rfl)) rfl
theorem mw_1723 : Jvm.Cond.privateMethod ({ cls := "CoinKeeperModel", name := "four", desc := "(I)V" } : Jvm.MethodName) ∈ lw_tbl := mt_8 _ (List.mem_of_getElem? (i := 43) rfl)
theorem gw_1724 : Jvm.Cond.instanceMethod ({ cls := "CoinKeeperModel", name := "four", desc := "(I)V" } : Jvm.MethodName) ∈ gw := gw_of (mt_8 _ (List.mem_of_getElem? (i := 44) rfl)) rfl
theorem gw_1725 : Jvm.Cond.code ({ cls := "CoinKeeperModel", name := "four", desc := "(I)V" } : Jvm.MethodName) prog_14_method_82_code (3 : Nat) (Option.none : Option Jvm.ClassFile.FieldType) ∈ gw := gw_of (mt_8 _ (List.mem_of_getElem? (i := 45) rfl)) rfl
theorem gw_1726 : Jvm.Cond.methodLink "CoinKeeperLaw" (63 : Nat) ({ cls := "CoinKeeperModel", name := "end", desc := "(I)I" } : Jvm.MethodName) ∈ gw := gw_of (mt_8 _ (List.mem_of_getElem? (i := 46) rfl)) rfl
theorem gw_1727 : Jvm.Cond.instanceMethod ({ cls := "CoinKeeperModel", name := "end", desc := "(I)I" } : Jvm.MethodName) ∈ gw := gw_of (mt_8 _ (List.mem_of_getElem? (i := 47) rfl)) rfl
theorem gw_1728 : Jvm.Cond.selects "CoinKeeperModel" ({ cls := "CoinKeeperModel", name := "end", desc := "(I)I" } : Jvm.MethodName) ({ cls := "CoinKeeperModel", name := "end", desc := "(I)I" } : Jvm.MethodName) ∈ gw := gw_of (mt_8 _ (List.mem_of_getElem? (i := 48) rfl)) rfl
theorem gw_1729 : Jvm.Cond.code ({ cls := "CoinKeeperModel", name := "end", desc := "(I)I" } : Jvm.MethodName) prog_14_method_83_code (2 : Nat) (Option.some Jvm.ClassFile.FieldType.int) ∈ gw := gw_of (mt_8 _ (List.mem_of_getElem? (i := 49) rfl)) rfl
theorem gw_1730 : Jvm.Cond.methodLink "CoinKeeperLaw" (67 : Nat) ({ cls := "CoinKeeperModel", name := "submit", desc := "()I" } : Jvm.MethodName) ∈ gw := gw_of (mt_8 _ (List.mem_of_getElem? (i := 50) rfl)) rfl
theorem gw_1731 : Jvm.Cond.instanceMethod ({ cls := "CoinKeeperModel", name := "submit", desc := "()I" } : Jvm.MethodName) ∈ gw := gw_of (mt_8 _ (List.mem_of_getElem? (i := 51) rfl)) rfl
theorem gw_1732 : Jvm.Cond.selects "CoinKeeperModel" ({ cls := "CoinKeeperModel", name := "submit", desc := "()I" } : Jvm.MethodName) ({ cls := "CoinKeeperModel", name := "submit", desc := "()I" } : Jvm.MethodName) ∈ gw := gw_of (mt_8 _ (List.mem_of_getElem? (i := 52) rfl)) rfl
theorem gw_1733 : Jvm.Cond.code ({ cls := "CoinKeeperModel", name := "submit", desc := "()I" } : Jvm.MethodName) prog_14_method_84_code (8 : Nat) (Option.some Jvm.ClassFile.FieldType.int) ∈ gw := gw_of (mt_8 _ (List.mem_of_getElem? (i := 53) rfl)) rfl
theorem gw_1734 : Jvm.Cond.constant "CoinKeeperModel" (665 : Nat) (100000 : Int32) ∈ gw := gw_of (mt_8 _ (List.mem_of_getElem? (i := 54) rfl)) rfl
theorem gw_1735 : Jvm.Cond.methodLink "CoinKeeperModel" (666 : Nat) ({ cls := "CoinKeeperModel", name := "take", desc := "(I)I" } : Jvm.MethodName) ∈ gw := gw_of (mt_8 _ (List.mem_of_getElem? (i := 55) rfl)) rfl
theorem mw_1736 : Jvm.Cond.privateMethod ({ cls := "CoinKeeperModel", name := "take", desc := "(I)I" } : Jvm.MethodName) ∈ lw_tbl := mt_8 _ (List.mem_of_getElem? (i := 56) rfl)
theorem gw_1737 : Jvm.Cond.instanceMethod ({ cls := "CoinKeeperModel", name := "take", desc := "(I)I" } : Jvm.MethodName) ∈ gw := gw_of (mt_8 _ (List.mem_of_getElem? (i := 57) rfl)) rfl
theorem gw_1738 : Jvm.Cond.code ({ cls := "CoinKeeperModel", name := "take", desc := "(I)I" } : Jvm.MethodName) prog_14_method_72_code (10 : Nat) (Option.some Jvm.ClassFile.FieldType.int) ∈ gw := gw_of (mt_8 _ (List.mem_of_getElem? (i := 58) rfl)) rfl
theorem gw_1739 : Jvm.Cond.methodLink "CoinKeeperModel" (549 : Nat) ({ cls := "CoinKeeperModel", name := "get", desc := "(I)J" } : Jvm.MethodName) ∈ gw := gw_of (mt_8 _ (List.mem_of_getElem? (i := 59) rfl)) rfl
theorem mw_1740 : Jvm.Cond.privateMethod ({ cls := "CoinKeeperModel", name := "get", desc := "(I)J" } : Jvm.MethodName) ∈ lw_tbl := mt_8 _ (List.mem_of_getElem? (i := 60) rfl)
theorem gw_1741 : Jvm.Cond.instanceMethod ({ cls := "CoinKeeperModel", name := "get", desc := "(I)J" } : Jvm.MethodName) ∈ gw := gw_of (mt_8 _ (List.mem_of_getElem? (i := 61) rfl)) rfl
theorem gw_1742 : Jvm.Cond.code ({ cls := "CoinKeeperModel", name := "get", desc := "(I)J" } : Jvm.MethodName) prog_14_method_59_code (5 : Nat) (Option.some Jvm.ClassFile.FieldType.long) ∈ gw := gw_of (mt_8 _ (List.mem_of_getElem? (i := 62) rfl)) rfl
theorem gw_1743 : Jvm.Cond.constantLong "CoinKeeperModel" (605 : Nat) (64 : Int64) ∈ gw := gw_of (mt_8 _ (List.mem_of_getElem? (i := 63) rfl)) rfl
theorem gw_1744 : Jvm.Cond.methodLink "CoinKeeperModel" (564 : Nat) ({ cls := "CoinKeeperModel", name := "skip", desc := "(J)V" } : Jvm.MethodName) ∈ gw := gw_of (mt_8 _ (List.mem_of_getElem? (i := 64) rfl)) rfl
theorem mw_1745 : Jvm.Cond.privateMethod ({ cls := "CoinKeeperModel", name := "skip", desc := "(J)V" } : Jvm.MethodName) ∈ lw_tbl := mt_8 _ (List.mem_of_getElem? (i := 65) rfl)
theorem gw_1746 : Jvm.Cond.instanceMethod ({ cls := "CoinKeeperModel", name := "skip", desc := "(J)V" } : Jvm.MethodName) ∈ gw := gw_of (mt_8 _ (List.mem_of_getElem? (i := 66) rfl)) rfl
theorem gw_1747 : Jvm.Cond.code ({ cls := "CoinKeeperModel", name := "skip", desc := "(J)V" } : Jvm.MethodName) prog_14_method_61_code (3 : Nat) (Option.none : Option Jvm.ClassFile.FieldType) ∈ gw := gw_of (mt_8 _ (List.mem_of_getElem? (i := 67) rfl)) rfl
theorem gw_1748 : Jvm.Cond.methodLink "CoinKeeperModel" (559 : Nat) ({ cls := "CoinKeeperModel", name := "count", desc := "()J" } : Jvm.MethodName) ∈ gw := gw_of (mt_8 _ (List.mem_of_getElem? (i := 68) rfl)) rfl
theorem mw_1749 : Jvm.Cond.privateMethod ({ cls := "CoinKeeperModel", name := "count", desc := "()J" } : Jvm.MethodName) ∈ lw_tbl := mt_8 _ (List.mem_of_getElem? (i := 69) rfl)
theorem gw_1750 : Jvm.Cond.instanceMethod ({ cls := "CoinKeeperModel", name := "count", desc := "()J" } : Jvm.MethodName) ∈ gw := gw_of (mt_8 _ (List.mem_of_getElem? (i := 70) rfl)) rfl
theorem gw_1751 : Jvm.Cond.code ({ cls := "CoinKeeperModel", name := "count", desc := "()J" } : Jvm.MethodName) prog_14_method_60_code (4 : Nat) (Option.some Jvm.ClassFile.FieldType.long) ∈ gw := gw_of (mt_8 _ (List.mem_of_getElem? (i := 71) rfl)) rfl
theorem gw_1752 : Jvm.Cond.constant "CoinKeeperModel" (552 : Nat) (65536 : Int32) ∈ gw := gw_of (mt_8 _ (List.mem_of_getElem? (i := 72) rfl)) rfl
theorem gw_1753 : Jvm.Cond.methodLink "CoinKeeperModel" (607 : Nat) ({ cls := "CoinKeeperModel", name := "transaction", desc := "()V" } : Jvm.MethodName) ∈ gw := gw_of (mt_8 _ (List.mem_of_getElem? (i := 73) rfl)) rfl
theorem mw_1754 : Jvm.Cond.privateMethod ({ cls := "CoinKeeperModel", name := "transaction", desc := "()V" } : Jvm.MethodName) ∈ lw_tbl := mt_8 _ (List.mem_of_getElem? (i := 74) rfl)
theorem gw_1755 : Jvm.Cond.instanceMethod ({ cls := "CoinKeeperModel", name := "transaction", desc := "()V" } : Jvm.MethodName) ∈ gw := gw_of (mt_8 _ (List.mem_of_getElem? (i := 75) rfl)) rfl
theorem gw_1756 : Jvm.Cond.code ({ cls := "CoinKeeperModel", name := "transaction", desc := "()V" } : Jvm.MethodName) prog_14_method_62_code (8 : Nat) (Option.none : Option Jvm.ClassFile.FieldType) ∈ gw := gw_of (mt_8 _ (List.mem_of_getElem? (i := 76) rfl)) rfl
theorem gw_1757 : Jvm.Cond.constantLong "CoinKeeperModel" (562 : Nat) (36 : Int64) ∈ gw := gw_of (mt_8 _ (List.mem_of_getElem? (i := 77) rfl)) rfl
theorem gw_1758 : Jvm.Cond.methodLink "CoinKeeperModel" (519 : Nat) ({ cls := "CoinKeeperModel", name := "twice", desc := "([BII)V" } : Jvm.MethodName) ∈ gw := gw_of (mt_8 _ (List.mem_of_getElem? (i := 78) rfl)) rfl
theorem mw_1759 : Jvm.Cond.privateMethod ({ cls := "CoinKeeperModel", name := "twice", desc := "([BII)V" } : Jvm.MethodName) ∈ lw_tbl := mt_8 _ (List.mem_of_getElem? (i := 79) rfl)
theorem gw_1760 : Jvm.Cond.instanceMethod ({ cls := "CoinKeeperModel", name := "twice", desc := "([BII)V" } : Jvm.MethodName) ∈ gw := gw_of (mt_8 _ (List.mem_of_getElem? (i := 80) rfl)) rfl
theorem gw_1761 : Jvm.Cond.code ({ cls := "CoinKeeperModel", name := "twice", desc := "([BII)V" } : Jvm.MethodName) prog_14_method_5_code (4 : Nat) (Option.none : Option Jvm.ClassFile.FieldType) ∈ gw := gw_of (mt_8 _ (List.mem_of_getElem? (i := 81) rfl)) rfl
theorem gw_1762 : Jvm.Cond.methodLink "CoinKeeperModel" (293 : Nat) ({ cls := "CoinKeeperModel", name := "sha", desc := "([BII)V" } : Jvm.MethodName) ∈ gw := gw_of (mt_8 _ (List.mem_of_getElem? (i := 82) rfl)) rfl
theorem mw_1763 : Jvm.Cond.privateMethod ({ cls := "CoinKeeperModel", name := "sha", desc := "([BII)V" } : Jvm.MethodName) ∈ lw_tbl := mt_8 _ (List.mem_of_getElem? (i := 83) rfl)
theorem gw_1764 : Jvm.Cond.instanceMethod ({ cls := "CoinKeeperModel", name := "sha", desc := "([BII)V" } : Jvm.MethodName) ∈ gw := gw_of (mt_8 _ (List.mem_of_getElem? (i := 84) rfl)) rfl
theorem gw_1765 : Jvm.Cond.code ({ cls := "CoinKeeperModel", name := "sha", desc := "([BII)V" } : Jvm.MethodName) prog_14_method_4_code (18 : Nat) (Option.none : Option Jvm.ClassFile.FieldType) ∈ gw := gw_of (mt_8 _ (List.mem_of_getElem? (i := 85) rfl)) rfl
theorem gw_1766 : Jvm.Cond.constantLong "CoinKeeperModel" (277 : Nat) (8 : Int64) ∈ gw := gw_of (mt_8 _ (List.mem_of_getElem? (i := 86) rfl)) rfl
theorem gw_1767 : Jvm.Cond.fieldLink "CoinKeeperModel" (279 : Nat) "CoinKeeperModel" "START" "[I" ∈ gw := gw_of (mt_8 _ (List.mem_of_getElem? (i := 87) rfl)) rfl
theorem mw_1768 : Jvm.Cond.laysStatic "CoinKeeperModel" "START" "[I" ∈ lw_tbl := mt_8 _ (List.mem_of_getElem? (i := 88) rfl)
theorem gw_1769 : Jvm.Cond.methodLink "CoinKeeperModel" (282 : Nat) ({ cls := "CoinKeeperModel", name := "big", desc := "([BI)I" } : Jvm.MethodName) ∈ gw := gw_of (mt_8 _ (List.mem_of_getElem? (i := 89) rfl)) rfl
theorem gw_1770 : Jvm.Cond.static ({ cls := "CoinKeeperModel", name := "big", desc := "([BI)I" } : Jvm.MethodName) ∈ gw := gw_of (mt_8 _ (List.mem_of_getElem? (i := 90) rfl)) rfl
theorem gw_1771 : Jvm.Cond.code ({ cls := "CoinKeeperModel", name := "big", desc := "([BI)I" } : Jvm.MethodName) prog_14_method_6_code (2 : Nat) (Option.some Jvm.ClassFile.FieldType.int) ∈ gw := gw_of (mt_8 _ (List.mem_of_getElem? (i := 91) rfl)) rfl
theorem gw_1772 : Jvm.Cond.methodLink "CoinKeeperModel" (286 : Nat) ({ cls := "CoinKeeperModel", name := "turn", desc := "(II)I" } : Jvm.MethodName) ∈ gw := gw_of (mt_8 _ (List.mem_of_getElem? (i := 92) rfl)) rfl
theorem gw_1773 : Jvm.Cond.static ({ cls := "CoinKeeperModel", name := "turn", desc := "(II)I" } : Jvm.MethodName) ∈ gw := gw_of (mt_8 _ (List.mem_of_getElem? (i := 93) rfl)) rfl
theorem gw_1774 : Jvm.Cond.code ({ cls := "CoinKeeperModel", name := "turn", desc := "(II)I" } : Jvm.MethodName) prog_14_method_3_code (2 : Nat) (Option.some Jvm.ClassFile.FieldType.int) ∈ gw := gw_of (mt_8 _ (List.mem_of_getElem? (i := 94) rfl)) rfl
theorem gw_1775 : Jvm.Cond.fieldLink "CoinKeeperModel" (290 : Nat) "CoinKeeperModel" "K" "[I" ∈ gw := gw_of (mt_8 _ (List.mem_of_getElem? (i := 95) rfl)) rfl
theorem mw_1776 : Jvm.Cond.laysStatic "CoinKeeperModel" "K" "[I" ∈ lw_tbl := mt_8 _ (List.mem_of_getElem? (i := 96) rfl)
theorem gw_1777 : Jvm.Cond.methodLink "CoinKeeperModel" (309 : Nat) ({ cls := "CoinKeeperModel", name := "small", desc := "([BI)I" } : Jvm.MethodName) ∈ gw := gw_of (mt_8 _ (List.mem_of_getElem? (i := 97) rfl)) rfl
theorem gw_1778 : Jvm.Cond.static ({ cls := "CoinKeeperModel", name := "small", desc := "([BI)I" } : Jvm.MethodName) ∈ gw := gw_of (mt_8 _ (List.mem_of_getElem? (i := 98) rfl)) rfl
theorem gw_1779 : Jvm.Cond.code ({ cls := "CoinKeeperModel", name := "small", desc := "([BI)I" } : Jvm.MethodName) prog_14_method_7_code (2 : Nat) (Option.some Jvm.ClassFile.FieldType.int) ∈ gw := gw_of (mt_8 _ (List.mem_of_getElem? (i := 99) rfl)) rfl
theorem gw_1780 : Jvm.Cond.methodLink "CoinKeeperModel" (610 : Nat) ({ cls := "CoinKeeperModel", name := "find", desc := "([BI)I" } : Jvm.MethodName) ∈ gw := gw_of (mt_8 _ (List.mem_of_getElem? (i := 100) rfl)) rfl
theorem mw_1781 : Jvm.Cond.privateMethod ({ cls := "CoinKeeperModel", name := "find", desc := "([BI)I" } : Jvm.MethodName) ∈ lw_tbl := mt_8 _ (List.mem_of_getElem? (i := 101) rfl)
theorem gw_1782 : Jvm.Cond.instanceMethod ({ cls := "CoinKeeperModel", name := "find", desc := "([BI)I" } : Jvm.MethodName) ∈ gw := gw_of (mt_8 _ (List.mem_of_getElem? (i := 102) rfl)) rfl
theorem gw_1783 : Jvm.Cond.code ({ cls := "CoinKeeperModel", name := "find", desc := "([BI)I" } : Jvm.MethodName) prog_14_method_71_code (6 : Nat) (Option.some Jvm.ClassFile.FieldType.int) ∈ gw := gw_of (mt_8 _ (List.mem_of_getElem? (i := 103) rfl)) rfl
theorem gw_1784 : Jvm.Cond.methodLink "CoinKeeperModel" (613 : Nat) ({ cls := "CoinKeeperModel", name := "wanted", desc := "(I)I" } : Jvm.MethodName) ∈ gw := gw_of (mt_8 _ (List.mem_of_getElem? (i := 104) rfl)) rfl
theorem mw_1785 : Jvm.Cond.privateMethod ({ cls := "CoinKeeperModel", name := "wanted", desc := "(I)I" } : Jvm.MethodName) ∈ lw_tbl := mt_8 _ (List.mem_of_getElem? (i := 105) rfl)
theorem gw_1786 : Jvm.Cond.instanceMethod ({ cls := "CoinKeeperModel", name := "wanted", desc := "(I)I" } : Jvm.MethodName) ∈ gw := gw_of (mt_8 _ (List.mem_of_getElem? (i := 106) rfl)) rfl
theorem gw_1787 : Jvm.Cond.code ({ cls := "CoinKeeperModel", name := "wanted", desc := "(I)I" } : Jvm.MethodName) prog_14_method_64_code (12 : Nat) (Option.some Jvm.ClassFile.FieldType.int) ∈ gw := gw_of (mt_8 _ (List.mem_of_getElem? (i := 107) rfl)) rfl
theorem gw_1788 : Jvm.Cond.constantLong "CoinKeeperModel" (570 : Nat) (1200 : Int64) ∈ gw := gw_of (mt_8 _ (List.mem_of_getElem? (i := 108) rfl)) rfl
theorem gw_1789 : Jvm.Cond.constantLong "CoinKeeperModel" (572 : Nat) (19200 : Int64) ∈ gw := gw_of (mt_8 _ (List.mem_of_getElem? (i := 109) rfl)) rfl
theorem gw_1790 : Jvm.Cond.methodLink "CoinKeeperModel" (574 : Nat) ({ cls := "java/lang/Math", name := "min", desc := "(JJ)J" } : Jvm.MethodName) ∈ gw := gw_of (mt_8 _ (List.mem_of_getElem? (i := 110) rfl)) rfl
theorem gw_1791 : Jvm.Cond.methodLink "CoinKeeperModel" (580 : Nat) ({ cls := "java/lang/Math", name := "max", desc := "(JJ)J" } : Jvm.MethodName) ∈ gw := gw_of (mt_8 _ (List.mem_of_getElem? (i := 111) rfl)) rfl
theorem gw_1792 : Jvm.Cond.constantLong "CoinKeeperModel" (583 : Nat) (4800 : Int64) ∈ gw := gw_of (mt_8 _ (List.mem_of_getElem? (i := 112) rfl)) rfl
theorem gw_1793 : Jvm.Cond.methodLink "CoinKeeperModel" (585 : Nat) ({ cls := "CoinKeeperModel", name := "bitsOf", desc := "([I)I" } : Jvm.MethodName) ∈ gw := gw_of (mt_8 _ (List.mem_of_getElem? (i := 113) rfl)) rfl
theorem gw_1794 : Jvm.Cond.static ({ cls := "CoinKeeperModel", name := "bitsOf", desc := "([I)I" } : Jvm.MethodName) ∈ gw := gw_of (mt_8 _ (List.mem_of_getElem? (i := 114) rfl)) rfl
theorem gw_1795 : Jvm.Cond.code ({ cls := "CoinKeeperModel", name := "bitsOf", desc := "([I)I" } : Jvm.MethodName) prog_14_method_19_code (3 : Nat) (Option.some Jvm.ClassFile.FieldType.int) ∈ gw := gw_of (mt_8 _ (List.mem_of_getElem? (i := 115) rfl)) rfl
theorem gw_1796 : Jvm.Cond.methodLink "CoinKeeperModel" (364 : Nat) ({ cls := "CoinKeeperModel", name := "byteOf", desc := "([II)I" } : Jvm.MethodName) ∈ gw := gw_of (mt_8 _ (List.mem_of_getElem? (i := 116) rfl)) rfl
theorem gw_1797 : Jvm.Cond.static ({ cls := "CoinKeeperModel", name := "byteOf", desc := "([II)I" } : Jvm.MethodName) ∈ gw := gw_of (mt_8 _ (List.mem_of_getElem? (i := 117) rfl)) rfl
theorem gw_1798 : Jvm.Cond.code ({ cls := "CoinKeeperModel", name := "byteOf", desc := "([II)I" } : Jvm.MethodName) prog_14_method_20_code (2 : Nat) (Option.some Jvm.ClassFile.FieldType.int) ∈ gw := gw_of (mt_8 _ (List.mem_of_getElem? (i := 118) rfl)) rfl
theorem gw_1799 : Jvm.Cond.methodLink "CoinKeeperModel" (616 : Nat) ({ cls := "CoinKeeperModel", name := "medianOf", desc := "(I)I" } : Jvm.MethodName) ∈ gw := gw_of (mt_8 _ (List.mem_of_getElem? (i := 119) rfl)) rfl
theorem mw_1800 : Jvm.Cond.privateMethod ({ cls := "CoinKeeperModel", name := "medianOf", desc := "(I)I" } : Jvm.MethodName) ∈ lw_tbl := mt_8 _ (List.mem_of_getElem? (i := 120) rfl)
theorem gw_1801 : Jvm.Cond.instanceMethod ({ cls := "CoinKeeperModel", name := "medianOf", desc := "(I)I" } : Jvm.MethodName) ∈ gw := gw_of (mt_8 _ (List.mem_of_getElem? (i := 121) rfl)) rfl
theorem gw_1802 : Jvm.Cond.code ({ cls := "CoinKeeperModel", name := "medianOf", desc := "(I)I" } : Jvm.MethodName) prog_14_method_63_code (6 : Nat) (Option.some Jvm.ClassFile.FieldType.int) ∈ gw := gw_of (mt_8 _ (List.mem_of_getElem? (i := 122) rfl)) rfl
theorem gw_1803 : Jvm.Cond.methodLink "CoinKeeperModel" (619 : Nat) ({ cls := "CoinKeeperModel", name := "isRoot", desc := "(III)Z" } : Jvm.MethodName) ∈ gw := gw_of (mt_8 _ (List.mem_of_getElem? (i := 123) rfl)) rfl
theorem mw_1804 : Jvm.Cond.privateMethod ({ cls := "CoinKeeperModel", name := "isRoot", desc := "(III)Z" } : Jvm.MethodName) ∈ lw_tbl := mt_8 _ (List.mem_of_getElem? (i := 124) rfl)
theorem gw_1805 : Jvm.Cond.instanceMethod ({ cls := "CoinKeeperModel", name := "isRoot", desc := "(III)Z" } : Jvm.MethodName) ∈ gw := gw_of (mt_8 _ (List.mem_of_getElem? (i := 125) rfl)) rfl
theorem gw_1806 : Jvm.Cond.code ({ cls := "CoinKeeperModel", name := "isRoot", desc := "(III)Z" } : Jvm.MethodName) prog_14_method_65_code (10 : Nat) (Option.some Jvm.ClassFile.FieldType.boolean) ∈ gw := gw_of (mt_8 _ (List.mem_of_getElem? (i := 126) rfl)) rfl
theorem gw_1807 : Jvm.Cond.methodLink "CoinKeeperModel" (623 : Nat) ({ cls := "CoinKeeperModel", name := "isSound", desc := "(IIII)Z" } : Jvm.MethodName) ∈ gw := gw_of (mt_8 _ (List.mem_of_getElem? (i := 127) rfl)) rfl
theorem mw_1808 : Jvm.Cond.privateMethod ({ cls := "CoinKeeperModel", name := "isSound", desc := "(IIII)Z" } : Jvm.MethodName) ∈ lw_tbl := mt_8 _ (List.mem_of_getElem? (i := 128) rfl)
theorem gw_1809 : Jvm.Cond.instanceMethod ({ cls := "CoinKeeperModel", name := "isSound", desc := "(IIII)Z" } : Jvm.MethodName) ∈ gw := gw_of (mt_8 _ (List.mem_of_getElem? (i := 129) rfl)) rfl
theorem gw_1810 : Jvm.Cond.code ({ cls := "CoinKeeperModel", name := "isSound", desc := "(IIII)Z" } : Jvm.MethodName) prog_14_method_69_code (12 : Nat) (Option.some Jvm.ClassFile.FieldType.boolean) ∈ gw := gw_of (mt_8 _ (List.mem_of_getElem? (i := 130) rfl)) rfl
theorem gw_1811 : Jvm.Cond.constantLong "CoinKeeperModel" (589 : Nat) (2100000000000000 : Int64) ∈ gw := gw_of (mt_8 _ (List.mem_of_getElem? (i := 131) rfl)) rfl
theorem gw_1812 : Jvm.Cond.methodLink "CoinKeeperModel" (591 : Nat) ({ cls := "CoinKeeperModel", name := "sigsOf", desc := "(II)I" } : Jvm.MethodName) ∈ gw := gw_of (mt_8 _ (List.mem_of_getElem? (i := 132) rfl)) rfl
theorem mw_1813 : Jvm.Cond.privateMethod ({ cls := "CoinKeeperModel", name := "sigsOf", desc := "(II)I" } : Jvm.MethodName) ∈ lw_tbl := mt_8 _ (List.mem_of_getElem? (i := 133) rfl)
theorem gw_1814 : Jvm.Cond.instanceMethod ({ cls := "CoinKeeperModel", name := "sigsOf", desc := "(II)I" } : Jvm.MethodName) ∈ gw := gw_of (mt_8 _ (List.mem_of_getElem? (i := 134) rfl)) rfl
theorem gw_1815 : Jvm.Cond.code ({ cls := "CoinKeeperModel", name := "sigsOf", desc := "(II)I" } : Jvm.MethodName) prog_14_method_66_code (7 : Nat) (Option.some Jvm.ClassFile.FieldType.int) ∈ gw := gw_of (mt_8 _ (List.mem_of_getElem? (i := 135) rfl)) rfl
theorem gw_1816 : Jvm.Cond.methodLink "CoinKeeperModel" (594 : Nat) ({ cls := "CoinKeeperModel", name := "isAlike", desc := "(II)Z" } : Jvm.MethodName) ∈ gw := gw_of (mt_8 _ (List.mem_of_getElem? (i := 136) rfl)) rfl
theorem mw_1817 : Jvm.Cond.privateMethod ({ cls := "CoinKeeperModel", name := "isAlike", desc := "(II)Z" } : Jvm.MethodName) ∈ lw_tbl := mt_8 _ (List.mem_of_getElem? (i := 137) rfl)
theorem gw_1818 : Jvm.Cond.instanceMethod ({ cls := "CoinKeeperModel", name := "isAlike", desc := "(II)Z" } : Jvm.MethodName) ∈ gw := gw_of (mt_8 _ (List.mem_of_getElem? (i := 138) rfl)) rfl
theorem gw_1819 : Jvm.Cond.code ({ cls := "CoinKeeperModel", name := "isAlike", desc := "(II)Z" } : Jvm.MethodName) prog_14_method_70_code (4 : Nat) (Option.some Jvm.ClassFile.FieldType.boolean) ∈ gw := gw_of (mt_8 _ (List.mem_of_getElem? (i := 139) rfl)) rfl
theorem gw_1820 : Jvm.Cond.methodLink "CoinKeeperModel" (597 : Nat) ({ cls := "CoinKeeperModel", name := "isNull", desc := "(I)Z" } : Jvm.MethodName) ∈ gw := gw_of (mt_8 _ (List.mem_of_getElem? (i := 140) rfl)) rfl
theorem mw_1821 : Jvm.Cond.privateMethod ({ cls := "CoinKeeperModel", name := "isNull", desc := "(I)Z" } : Jvm.MethodName) ∈ lw_tbl := mt_8 _ (List.mem_of_getElem? (i := 141) rfl)
theorem gw_1822 : Jvm.Cond.instanceMethod ({ cls := "CoinKeeperModel", name := "isNull", desc := "(I)Z" } : Jvm.MethodName) ∈ gw := gw_of (mt_8 _ (List.mem_of_getElem? (i := 142) rfl)) rfl
theorem gw_1823 : Jvm.Cond.code ({ cls := "CoinKeeperModel", name := "isNull", desc := "(I)Z" } : Jvm.MethodName) prog_14_method_67_code (3 : Nat) (Option.some Jvm.ClassFile.FieldType.boolean) ∈ gw := gw_of (mt_8 _ (List.mem_of_getElem? (i := 143) rfl)) rfl
theorem gw_1824 : Jvm.Cond.methodLink "CoinKeeperModel" (600 : Nat) ({ cls := "CoinKeeperModel", name := "isHeight", desc := "(II)Z" } : Jvm.MethodName) ∈ gw := gw_of (mt_8 _ (List.mem_of_getElem? (i := 144) rfl)) rfl
theorem mw_1825 : Jvm.Cond.privateMethod ({ cls := "CoinKeeperModel", name := "isHeight", desc := "(II)Z" } : Jvm.MethodName) ∈ lw_tbl := mt_8 _ (List.mem_of_getElem? (i := 145) rfl)
theorem gw_1826 : Jvm.Cond.instanceMethod ({ cls := "CoinKeeperModel", name := "isHeight", desc := "(II)Z" } : Jvm.MethodName) ∈ gw := gw_of (mt_8 _ (List.mem_of_getElem? (i := 146) rfl)) rfl
theorem gw_1827 : Jvm.Cond.code ({ cls := "CoinKeeperModel", name := "isHeight", desc := "(II)Z" } : Jvm.MethodName) prog_14_method_68_code (6 : Nat) (Option.some Jvm.ClassFile.FieldType.boolean) ∈ gw := gw_of (mt_8 _ (List.mem_of_getElem? (i := 147) rfl)) rfl
theorem gw_1828 : Jvm.Cond.methodLink "CoinKeeperModel" (442 : Nat) ({ cls := "CoinKeeperModel", name := "pushNumber", desc := "(J)V" } : Jvm.MethodName) ∈ gw := gw_of (mt_8 _ (List.mem_of_getElem? (i := 148) rfl)) rfl
theorem mw_1829 : Jvm.Cond.privateMethod ({ cls := "CoinKeeperModel", name := "pushNumber", desc := "(J)V" } : Jvm.MethodName) ∈ lw_tbl := mt_8 _ (List.mem_of_getElem? (i := 149) rfl)
theorem gw_1830 : Jvm.Cond.instanceMethod ({ cls := "CoinKeeperModel", name := "pushNumber", desc := "(J)V" } : Jvm.MethodName) ∈ gw := gw_of (mt_8 _ (List.mem_of_getElem? (i := 150) rfl)) rfl
theorem gw_1831 : Jvm.Cond.code ({ cls := "CoinKeeperModel", name := "pushNumber", desc := "(J)V" } : Jvm.MethodName) prog_14_method_42_code (7 : Nat) (Option.none : Option Jvm.ClassFile.FieldType) ∈ gw := gw_of (mt_8 _ (List.mem_of_getElem? (i := 151) rfl)) rfl
theorem gw_1832 : Jvm.Cond.constantLong "CoinKeeperModel" (603 : Nat) (500000000 : Int64) ∈ gw := gw_of (mt_8 _ (List.mem_of_getElem? (i := 152) rfl)) rfl
theorem gw_1833 : Jvm.Cond.methodLink "CoinKeeperModel" (672 : Nat) ({ cls := "CoinKeeperModel", name := "compareWork", desc := "(II)I" } : Jvm.MethodName) ∈ gw := gw_of (mt_8 _ (List.mem_of_getElem? (i := 153) rfl)) rfl
theorem mw_1834 : Jvm.Cond.privateMethod ({ cls := "CoinKeeperModel", name := "compareWork", desc := "(II)I" } : Jvm.MethodName) ∈ lw_tbl := mt_8 _ (List.mem_of_getElem? (i := 154) rfl)
theorem gw_1835 : Jvm.Cond.instanceMethod ({ cls := "CoinKeeperModel", name := "compareWork", desc := "(II)I" } : Jvm.MethodName) ∈ gw := gw_of (mt_8 _ (List.mem_of_getElem? (i := 155) rfl)) rfl
theorem gw_1836 : Jvm.Cond.code ({ cls := "CoinKeeperModel", name := "compareWork", desc := "(II)I" } : Jvm.MethodName) prog_14_method_22_code (4 : Nat) (Option.some Jvm.ClassFile.FieldType.int) ∈ gw := gw_of (mt_8 _ (List.mem_of_getElem? (i := 156) rfl)) rfl
theorem gw_1837 : Jvm.Cond.methodLink "CoinKeeperModel" (675 : Nat) ({ cls := "CoinKeeperModel", name := "branch", desc := "(I)I" } : Jvm.MethodName) ∈ gw := gw_of (mt_8 _ (List.mem_of_getElem? (i := 157) rfl)) rfl
theorem mw_1838 : Jvm.Cond.privateMethod ({ cls := "CoinKeeperModel", name := "branch", desc := "(I)I" } : Jvm.MethodName) ∈ lw_tbl := mt_8 _ (List.mem_of_getElem? (i := 158) rfl)
theorem gw_1839 : Jvm.Cond.instanceMethod ({ cls := "CoinKeeperModel", name := "branch", desc := "(I)I" } : Jvm.MethodName) ∈ gw := gw_of (mt_8 _ (List.mem_of_getElem? (i := 159) rfl)) rfl
theorem gw_1840 : Jvm.Cond.code ({ cls := "CoinKeeperModel", name := "branch", desc := "(I)I" } : Jvm.MethodName) prog_14_method_80_code (6 : Nat) (Option.some Jvm.ClassFile.FieldType.int) ∈ gw := gw_of (mt_8 _ (List.mem_of_getElem? (i := 160) rfl)) rfl
theorem gw_1841 : Jvm.Cond.methodLink "CoinKeeperModel" (653 : Nat) ({ cls := "CoinKeeperModel", name := "valid", desc := "(I)I" } : Jvm.MethodName) ∈ gw := gw_of (mt_8 _ (List.mem_of_getElem? (i := 161) rfl)) rfl
theorem mw_1842 : Jvm.Cond.privateMethod ({ cls := "CoinKeeperModel", name := "valid", desc := "(I)I" } : Jvm.MethodName) ∈ lw_tbl := mt_8 _ (List.mem_of_getElem? (i := 162) rfl)
theorem gw_1843 : Jvm.Cond.instanceMethod ({ cls := "CoinKeeperModel", name := "valid", desc := "(I)I" } : Jvm.MethodName) ∈ gw := gw_of (mt_8 _ (List.mem_of_getElem? (i := 163) rfl)) rfl
theorem gw_1844 : Jvm.Cond.code ({ cls := "CoinKeeperModel", name := "valid", desc := "(I)I" } : Jvm.MethodName) prog_14_method_77_code (15 : Nat) (Option.some Jvm.ClassFile.FieldType.int) ∈ gw := gw_of (mt_8 _ (List.mem_of_getElem? (i := 164) rfl)) rfl
theorem gw_1845 : Jvm.Cond.methodLink "CoinKeeperModel" (638 : Nat) ({ cls := "CoinKeeperModel", name := "come", desc := "(IIZ)V" } : Jvm.MethodName) ∈ gw := gw_of (mt_8 _ (List.mem_of_getElem? (i := 165) rfl)) rfl
theorem mw_1846 : Jvm.Cond.privateMethod ({ cls := "CoinKeeperModel", name := "come", desc := "(IIZ)V" } : Jvm.MethodName) ∈ lw_tbl := mt_8 _ (List.mem_of_getElem? (i := 166) rfl)
theorem gw_1847 : Jvm.Cond.instanceMethod ({ cls := "CoinKeeperModel", name := "come", desc := "(IIZ)V" } : Jvm.MethodName) ∈ gw := gw_of (mt_8 _ (List.mem_of_getElem? (i := 167) rfl)) rfl
theorem gw_1848 : Jvm.Cond.code ({ cls := "CoinKeeperModel", name := "come", desc := "(IIZ)V" } : Jvm.MethodName) prog_14_method_76_code (7 : Nat) (Option.none : Option Jvm.ClassFile.FieldType) ∈ gw := gw_of (mt_8 _ (List.mem_of_getElem? (i := 168) rfl)) rfl
theorem gw_1849 : Jvm.Cond.methodLink "CoinKeeperModel" (631 : Nat) ({ cls := "CoinKeeperModel", name := "entry", desc := "([BII)I" } : Jvm.MethodName) ∈ gw := gw_of (mt_8 _ (List.mem_of_getElem? (i := 169) rfl)) rfl
theorem mw_1850 : Jvm.Cond.privateMethod ({ cls := "CoinKeeperModel", name := "entry", desc := "([BII)I" } : Jvm.MethodName) ∈ lw_tbl := mt_8 _ (List.mem_of_getElem? (i := 170) rfl)
theorem gw_1851 : Jvm.Cond.instanceMethod ({ cls := "CoinKeeperModel", name := "entry", desc := "([BII)I" } : Jvm.MethodName) ∈ gw := gw_of (mt_8 _ (List.mem_of_getElem? (i := 171) rfl)) rfl
theorem gw_1852 : Jvm.Cond.code ({ cls := "CoinKeeperModel", name := "entry", desc := "([BII)I" } : Jvm.MethodName) prog_14_method_75_code (9 : Nat) (Option.some Jvm.ClassFile.FieldType.int) ∈ gw := gw_of (mt_8 _ (List.mem_of_getElem? (i := 172) rfl)) rfl
theorem gw_1853 : Jvm.Cond.methodLink "CoinKeeperModel" (628 : Nat) ({ cls := "CoinKeeperModel", name := "placeOf", desc := "(II)I" } : Jvm.MethodName) ∈ gw := gw_of (mt_8 _ (List.mem_of_getElem? (i := 173) rfl)) rfl
theorem mw_1854 : Jvm.Cond.privateMethod ({ cls := "CoinKeeperModel", name := "placeOf", desc := "(II)I" } : Jvm.MethodName) ∈ lw_tbl := mt_8 _ (List.mem_of_getElem? (i := 174) rfl)
theorem gw_1855 : Jvm.Cond.instanceMethod ({ cls := "CoinKeeperModel", name := "placeOf", desc := "(II)I" } : Jvm.MethodName) ∈ gw := gw_of (mt_8 _ (List.mem_of_getElem? (i := 175) rfl)) rfl
theorem gw_1856 : Jvm.Cond.code ({ cls := "CoinKeeperModel", name := "placeOf", desc := "(II)I" } : Jvm.MethodName) prog_14_method_74_code (3 : Nat) (Option.some Jvm.ClassFile.FieldType.int) ∈ gw := gw_of (mt_8 _ (List.mem_of_getElem? (i := 176) rfl)) rfl
theorem gw_1857 : Jvm.Cond.constant "CoinKeeperModel" (627 : Nat) (-1640531535 : Int32) ∈ gw := gw_of (mt_8 _ (List.mem_of_getElem? (i := 177) rfl)) rfl
theorem gw_1858 : Jvm.Cond.methodLink "CoinKeeperModel" (642 : Nat) ({ cls := "CoinKeeperModel", name := "isFine", desc := "(III)Z" } : Jvm.MethodName) ∈ gw := gw_of (mt_8 _ (List.mem_of_getElem? (i := 178) rfl)) rfl
theorem mw_1859 : Jvm.Cond.privateMethod ({ cls := "CoinKeeperModel", name := "isFine", desc := "(III)Z" } : Jvm.MethodName) ∈ lw_tbl := mt_8 _ (List.mem_of_getElem? (i := 179) rfl)
theorem gw_1860 : Jvm.Cond.instanceMethod ({ cls := "CoinKeeperModel", name := "isFine", desc := "(III)Z" } : Jvm.MethodName) ∈ gw := gw_of (mt_8 _ (List.mem_of_getElem? (i := 180) rfl)) rfl
theorem gw_1861 : Jvm.Cond.code ({ cls := "CoinKeeperModel", name := "isFine", desc := "(III)Z" } : Jvm.MethodName) prog_14_method_78_code (4 : Nat) (Option.some Jvm.ClassFile.FieldType.boolean) ∈ gw := gw_of (mt_8 _ (List.mem_of_getElem? (i := 181) rfl)) rfl
theorem gw_1862 : Jvm.Cond.methodLink "CoinKeeperModel" (647 : Nat) ({ cls := "CoinKeeperModel", name := "isTrue", desc := "([BIIII)Z" } : Jvm.MethodName) ∈ gw := gw_of (mt_8 _ (List.mem_of_getElem? (i := 182) rfl)) rfl
theorem mw_1863 : Jvm.Cond.privateMethod ({ cls := "CoinKeeperModel", name := "isTrue", desc := "([BIIII)Z" } : Jvm.MethodName) ∈ lw_tbl := mt_8 _ (List.mem_of_getElem? (i := 183) rfl)
theorem gw_1864 : Jvm.Cond.instanceMethod ({ cls := "CoinKeeperModel", name := "isTrue", desc := "([BIIII)Z" } : Jvm.MethodName) ∈ gw := gw_of (mt_8 _ (List.mem_of_getElem? (i := 184) rfl)) rfl
theorem gw_1865 : Jvm.Cond.code ({ cls := "CoinKeeperModel", name := "isTrue", desc := "([BIIII)Z" } : Jvm.MethodName) prog_14_method_79_code (6 : Nat) (Option.some Jvm.ClassFile.FieldType.boolean) ∈ gw := gw_of (mt_8 _ (List.mem_of_getElem? (i := 185) rfl)) rfl
theorem gw_1866 : Jvm.Cond.methodLink "CoinKeeperModel" (650 : Nat) ({ cls := "CoinKeeperModel", name := "run", desc := "([BII)Z" } : Jvm.MethodName) ∈ gw := gw_of (mt_8 _ (List.mem_of_getElem? (i := 186) rfl)) rfl
theorem mw_1867 : Jvm.Cond.privateMethod ({ cls := "CoinKeeperModel", name := "run", desc := "([BII)Z" } : Jvm.MethodName) ∈ lw_tbl := mt_8 _ (List.mem_of_getElem? (i := 187) rfl)
theorem gw_1868 : Jvm.Cond.instanceMethod ({ cls := "CoinKeeperModel", name := "run", desc := "([BII)Z" } : Jvm.MethodName) ∈ gw := gw_of (mt_8 _ (List.mem_of_getElem? (i := 188) rfl)) rfl
theorem gw_1869 : Jvm.Cond.code ({ cls := "CoinKeeperModel", name := "run", desc := "([BII)Z" } : Jvm.MethodName) prog_14_method_48_code (9 : Nat) (Option.some Jvm.ClassFile.FieldType.boolean) ∈ gw := gw_of (mt_8 _ (List.mem_of_getElem? (i := 189) rfl)) rfl
theorem gw_1870 : Jvm.Cond.methodLink "CoinKeeperModel" (456 : Nat) ({ cls := "CoinKeeperModel", name := "push", desc := "([BII)V" } : Jvm.MethodName) ∈ gw := gw_of (mt_8 _ (List.mem_of_getElem? (i := 190) rfl)) rfl
theorem mw_1871 : Jvm.Cond.privateMethod ({ cls := "CoinKeeperModel", name := "push", desc := "([BII)V" } : Jvm.MethodName) ∈ lw_tbl := mt_8 _ (List.mem_of_getElem? (i := 191) rfl)
theorem gw_1872 : Jvm.Cond.instanceMethod ({ cls := "CoinKeeperModel", name := "push", desc := "([BII)V" } : Jvm.MethodName) ∈ gw := gw_of (mt_8 _ (List.mem_of_getElem? (i := 192) rfl)) rfl
theorem gw_1873 : Jvm.Cond.code ({ cls := "CoinKeeperModel", name := "push", desc := "([BII)V" } : Jvm.MethodName) prog_14_method_41_code (4 : Nat) (Option.none : Option Jvm.ClassFile.FieldType) ∈ gw := gw_of (mt_8 _ (List.mem_of_getElem? (i := 193) rfl)) rfl
theorem gw_1874 : Jvm.Cond.methodLink "CoinKeeperModel" (459 : Nat) ({ cls := "CoinKeeperModel", name := "isTrue", desc := "(I)Z" } : Jvm.MethodName) ∈ gw := gw_of (mt_8 _ (List.mem_of_getElem? (i := 194) rfl)) rfl
theorem mw_1875 : Jvm.Cond.privateMethod ({ cls := "CoinKeeperModel", name := "isTrue", desc := "(I)Z" } : Jvm.MethodName) ∈ lw_tbl := mt_8 _ (List.mem_of_getElem? (i := 195) rfl)
theorem gw_1876 : Jvm.Cond.instanceMethod ({ cls := "CoinKeeperModel", name := "isTrue", desc := "(I)Z" } : Jvm.MethodName) ∈ gw := gw_of (mt_8 _ (List.mem_of_getElem? (i := 196) rfl)) rfl
theorem gw_1877 : Jvm.Cond.code ({ cls := "CoinKeeperModel", name := "isTrue", desc := "(I)Z" } : Jvm.MethodName) prog_14_method_44_code (3 : Nat) (Option.some Jvm.ClassFile.FieldType.boolean) ∈ gw := gw_of (mt_8 _ (List.mem_of_getElem? (i := 197) rfl)) rfl
theorem gw_1878 : Jvm.Cond.methodLink "CoinKeeperModel" (462 : Nat) ({ cls := "CoinKeeperModel", name := "isDone", desc := "(I)Z" } : Jvm.MethodName) ∈ gw := gw_of (mt_8 _ (List.mem_of_getElem? (i := 198) rfl)) rfl
theorem mw_1879 : Jvm.Cond.privateMethod ({ cls := "CoinKeeperModel", name := "isDone", desc := "(I)Z" } : Jvm.MethodName) ∈ lw_tbl := mt_8 _ (List.mem_of_getElem? (i := 199) rfl)
theorem gw_1880 : Jvm.Cond.instanceMethod ({ cls := "CoinKeeperModel", name := "isDone", desc := "(I)Z" } : Jvm.MethodName) ∈ gw := gw_of (mt_8 _ (List.mem_of_getElem? (i := 200) rfl)) rfl
theorem gw_1881 : Jvm.Cond.code ({ cls := "CoinKeeperModel", name := "isDone", desc := "(I)Z" } : Jvm.MethodName) prog_14_method_50_code (4 : Nat) (Option.some Jvm.ClassFile.FieldType.boolean) ∈ gw := gw_of (mt_8 _ (List.mem_of_getElem? (i := 201) rfl)) rfl
theorem gw_1882 : Jvm.Cond.methodLink "CoinKeeperModel" (465 : Nat) ({ cls := "CoinKeeperModel", name := "isArithmetic", desc := "(I)Z" } : Jvm.MethodName) ∈ gw := gw_of (mt_8 _ (List.mem_of_getElem? (i := 202) rfl)) rfl
theorem mw_1883 : Jvm.Cond.privateMethod ({ cls := "CoinKeeperModel", name := "isArithmetic", desc := "(I)Z" } : Jvm.MethodName) ∈ lw_tbl := mt_8 _ (List.mem_of_getElem? (i := 203) rfl)
theorem gw_1884 : Jvm.Cond.instanceMethod ({ cls := "CoinKeeperModel", name := "isArithmetic", desc := "(I)Z" } : Jvm.MethodName) ∈ gw := gw_of (mt_8 _ (List.mem_of_getElem? (i := 204) rfl)) rfl
theorem gw_1885 : Jvm.Cond.code ({ cls := "CoinKeeperModel", name := "isArithmetic", desc := "(I)Z" } : Jvm.MethodName) prog_14_method_53_code (11 : Nat) (Option.some Jvm.ClassFile.FieldType.boolean) ∈ gw := gw_of (mt_8 _ (List.mem_of_getElem? (i := 205) rfl)) rfl
theorem gw_1886 : Jvm.Cond.methodLink "CoinKeeperModel" (468 : Nat) ({ cls := "CoinKeeperModel", name := "has", desc := "(I)Z" } : Jvm.MethodName) ∈ gw := gw_of (mt_8 _ (List.mem_of_getElem? (i := 206) rfl)) rfl
theorem mw_1887 : Jvm.Cond.privateMethod ({ cls := "CoinKeeperModel", name := "has", desc := "(I)Z" } : Jvm.MethodName) ∈ lw_tbl := mt_8 _ (List.mem_of_getElem? (i := 207) rfl)
theorem gw_1888 : Jvm.Cond.instanceMethod ({ cls := "CoinKeeperModel", name := "has", desc := "(I)Z" } : Jvm.MethodName) ∈ gw := gw_of (mt_8 _ (List.mem_of_getElem? (i := 208) rfl)) rfl
theorem gw_1889 : Jvm.Cond.code ({ cls := "CoinKeeperModel", name := "has", desc := "(I)Z" } : Jvm.MethodName) prog_14_method_49_code (2 : Nat) (Option.some Jvm.ClassFile.FieldType.boolean) ∈ gw := gw_of (mt_8 _ (List.mem_of_getElem? (i := 209) rfl)) rfl
theorem gw_1890 : Jvm.Cond.methodLink "CoinKeeperModel" (485 : Nat) ({ cls := "CoinKeeperModel", name := "isNumber", desc := "(I)Z" } : Jvm.MethodName) ∈ gw := gw_of (mt_8 _ (List.mem_of_getElem? (i := 210) rfl)) rfl
theorem mw_1891 : Jvm.Cond.privateMethod ({ cls := "CoinKeeperModel", name := "isNumber", desc := "(I)Z" } : Jvm.MethodName) ∈ lw_tbl := mt_8 _ (List.mem_of_getElem? (i := 211) rfl)
theorem gw_1892 : Jvm.Cond.instanceMethod ({ cls := "CoinKeeperModel", name := "isNumber", desc := "(I)Z" } : Jvm.MethodName) ∈ gw := gw_of (mt_8 _ (List.mem_of_getElem? (i := 212) rfl)) rfl
theorem gw_1893 : Jvm.Cond.code ({ cls := "CoinKeeperModel", name := "isNumber", desc := "(I)Z" } : Jvm.MethodName) prog_14_method_45_code (2 : Nat) (Option.some Jvm.ClassFile.FieldType.boolean) ∈ gw := gw_of (mt_8 _ (List.mem_of_getElem? (i := 213) rfl)) rfl
theorem gw_1894 : Jvm.Cond.methodLink "CoinKeeperModel" (488 : Nat) ({ cls := "CoinKeeperModel", name := "numberAt", desc := "(I)J" } : Jvm.MethodName) ∈ gw := gw_of (mt_8 _ (List.mem_of_getElem? (i := 214) rfl)) rfl
theorem mw_1895 : Jvm.Cond.privateMethod ({ cls := "CoinKeeperModel", name := "numberAt", desc := "(I)J" } : Jvm.MethodName) ∈ lw_tbl := mt_8 _ (List.mem_of_getElem? (i := 215) rfl)
theorem gw_1896 : Jvm.Cond.instanceMethod ({ cls := "CoinKeeperModel", name := "numberAt", desc := "(I)J" } : Jvm.MethodName) ∈ gw := gw_of (mt_8 _ (List.mem_of_getElem? (i := 216) rfl)) rfl
theorem gw_1897 : Jvm.Cond.code ({ cls := "CoinKeeperModel", name := "numberAt", desc := "(I)J" } : Jvm.MethodName) prog_14_method_46_code (6 : Nat) (Option.some Jvm.ClassFile.FieldType.long) ∈ gw := gw_of (mt_8 _ (List.mem_of_getElem? (i := 217) rfl)) rfl
theorem gw_1898 : Jvm.Cond.constantLong "CoinKeeperModel" (446 : Nat) (255 : Int64) ∈ gw := gw_of (mt_8 _ (List.mem_of_getElem? (i := 218) rfl)) rfl
theorem gw_1899 : Jvm.Cond.constantLong "CoinKeeperModel" (448 : Nat) (-1 : Int64) ∈ gw := gw_of (mt_8 _ (List.mem_of_getElem? (i := 219) rfl)) rfl
theorem gw_1900 : Jvm.Cond.methodLink "CoinKeeperModel" (471 : Nat) ({ cls := "CoinKeeperModel", name := "other", desc := "(I)I" } : Jvm.MethodName) ∈ gw := gw_of (mt_8 _ (List.mem_of_getElem? (i := 220) rfl)) rfl
theorem gw_1901 : Jvm.Cond.static ({ cls := "CoinKeeperModel", name := "other", desc := "(I)I" } : Jvm.MethodName) ∈ gw := gw_of (mt_8 _ (List.mem_of_getElem? (i := 221) rfl)) rfl
theorem gw_1902 : Jvm.Cond.code ({ cls := "CoinKeeperModel", name := "other", desc := "(I)I" } : Jvm.MethodName) prog_14_method_39_code (1 : Nat) (Option.some Jvm.ClassFile.FieldType.int) ∈ gw := gw_of (mt_8 _ (List.mem_of_getElem? (i := 222) rfl)) rfl
theorem gw_1903 : Jvm.Cond.methodLink "CoinKeeperModel" (474 : Nat) ({ cls := "CoinKeeperModel", name := "move", desc := "(II)V" } : Jvm.MethodName) ∈ gw := gw_of (mt_8 _ (List.mem_of_getElem? (i := 223) rfl)) rfl
theorem mw_1904 : Jvm.Cond.privateMethod ({ cls := "CoinKeeperModel", name := "move", desc := "(II)V" } : Jvm.MethodName) ∈ lw_tbl := mt_8 _ (List.mem_of_getElem? (i := 224) rfl)
theorem gw_1905 : Jvm.Cond.instanceMethod ({ cls := "CoinKeeperModel", name := "move", desc := "(II)V" } : Jvm.MethodName) ∈ gw := gw_of (mt_8 _ (List.mem_of_getElem? (i := 225) rfl)) rfl
theorem gw_1906 : Jvm.Cond.code ({ cls := "CoinKeeperModel", name := "move", desc := "(II)V" } : Jvm.MethodName) prog_14_method_40_code (3 : Nat) (Option.none : Option Jvm.ClassFile.FieldType) ∈ gw := gw_of (mt_8 _ (List.mem_of_getElem? (i := 226) rfl)) rfl
theorem gw_1907 : Jvm.Cond.methodLink "CoinKeeperModel" (478 : Nat) ({ cls := "CoinKeeperModel", name := "again", desc := "(I)Z" } : Jvm.MethodName) ∈ gw := gw_of (mt_8 _ (List.mem_of_getElem? (i := 227) rfl)) rfl
theorem mw_1908 : Jvm.Cond.privateMethod ({ cls := "CoinKeeperModel", name := "again", desc := "(I)Z" } : Jvm.MethodName) ∈ lw_tbl := mt_8 _ (List.mem_of_getElem? (i := 228) rfl)
theorem gw_1909 : Jvm.Cond.instanceMethod ({ cls := "CoinKeeperModel", name := "again", desc := "(I)Z" } : Jvm.MethodName) ∈ gw := gw_of (mt_8 _ (List.mem_of_getElem? (i := 229) rfl)) rfl
theorem gw_1910 : Jvm.Cond.code ({ cls := "CoinKeeperModel", name := "again", desc := "(I)Z" } : Jvm.MethodName) prog_14_method_51_code (2 : Nat) (Option.some Jvm.ClassFile.FieldType.boolean) ∈ gw := gw_of (mt_8 _ (List.mem_of_getElem? (i := 230) rfl)) rfl
theorem gw_1911 : Jvm.Cond.methodLink "CoinKeeperModel" (481 : Nat) ({ cls := "CoinKeeperModel", name := "takes", desc := "(IZ)Z" } : Jvm.MethodName) ∈ gw := gw_of (mt_8 _ (List.mem_of_getElem? (i := 231) rfl)) rfl
theorem mw_1912 : Jvm.Cond.privateMethod ({ cls := "CoinKeeperModel", name := "takes", desc := "(IZ)Z" } : Jvm.MethodName) ∈ lw_tbl := mt_8 _ (List.mem_of_getElem? (i := 232) rfl)
theorem gw_1913 : Jvm.Cond.instanceMethod ({ cls := "CoinKeeperModel", name := "takes", desc := "(IZ)Z" } : Jvm.MethodName) ∈ gw := gw_of (mt_8 _ (List.mem_of_getElem? (i := 233) rfl)) rfl
theorem gw_1914 : Jvm.Cond.code ({ cls := "CoinKeeperModel", name := "takes", desc := "(IZ)Z" } : Jvm.MethodName) prog_14_method_52_code (4 : Nat) (Option.some Jvm.ClassFile.FieldType.boolean) ∈ gw := gw_of (mt_8 _ (List.mem_of_getElem? (i := 234) rfl)) rfl
theorem gw_1915 : Jvm.Cond.methodLink "CoinKeeperModel" (492 : Nat) ({ cls := "CoinKeeperModel", name := "isSame", desc := "(II)Z" } : Jvm.MethodName) ∈ gw := gw_of (mt_8 _ (List.mem_of_getElem? (i := 235) rfl)) rfl
theorem mw_1916 : Jvm.Cond.privateMethod ({ cls := "CoinKeeperModel", name := "isSame", desc := "(II)Z" } : Jvm.MethodName) ∈ lw_tbl := mt_8 _ (List.mem_of_getElem? (i := 236) rfl)
theorem gw_1917 : Jvm.Cond.instanceMethod ({ cls := "CoinKeeperModel", name := "isSame", desc := "(II)Z" } : Jvm.MethodName) ∈ gw := gw_of (mt_8 _ (List.mem_of_getElem? (i := 237) rfl)) rfl
theorem gw_1918 : Jvm.Cond.code ({ cls := "CoinKeeperModel", name := "isSame", desc := "(II)Z" } : Jvm.MethodName) prog_14_method_47_code (4 : Nat) (Option.some Jvm.ClassFile.FieldType.boolean) ∈ gw := gw_of (mt_8 _ (List.mem_of_getElem? (i := 238) rfl)) rfl
theorem gw_1919 : Jvm.Cond.methodLink "CoinKeeperModel" (496 : Nat) ({ cls := "CoinKeeperModel", name := "pushTruth", desc := "(Z)V" } : Jvm.MethodName) ∈ gw := gw_of (mt_8 _ (List.mem_of_getElem? (i := 239) rfl)) rfl
theorem mw_1920 : Jvm.Cond.privateMethod ({ cls := "CoinKeeperModel", name := "pushTruth", desc := "(Z)V" } : Jvm.MethodName) ∈ lw_tbl := mt_9 _ (List.mem_of_getElem? (i := 0) rfl)
theorem gw_1921 : Jvm.Cond.instanceMethod ({ cls := "CoinKeeperModel", name := "pushTruth", desc := "(Z)V" } : Jvm.MethodName) ∈ gw := gw_of (mt_9 _ (List.mem_of_getElem? (i := 1) rfl)) rfl
theorem gw_1922 : Jvm.Cond.code ({ cls := "CoinKeeperModel", name := "pushTruth", desc := "(Z)V" } : Jvm.MethodName) prog_14_method_43_code (2 : Nat) (Option.none : Option Jvm.ClassFile.FieldType) ∈ gw := gw_of (mt_9 _ (List.mem_of_getElem? (i := 2) rfl)) rfl
theorem gw_1923 : Jvm.Cond.methodLink "CoinKeeperModel" (500 : Nat) ({ cls := "CoinKeeperModel", name := "hashed", desc := "(I)Z" } : Jvm.MethodName) ∈ gw := gw_of (mt_9 _ (List.mem_of_getElem? (i := 3) rfl)) rfl
theorem mw_1924 : Jvm.Cond.privateMethod ({ cls := "CoinKeeperModel", name := "hashed", desc := "(I)Z" } : Jvm.MethodName) ∈ lw_tbl := mt_9 _ (List.mem_of_getElem? (i := 4) rfl)
theorem gw_1925 : Jvm.Cond.instanceMethod ({ cls := "CoinKeeperModel", name := "hashed", desc := "(I)Z" } : Jvm.MethodName) ∈ gw := gw_of (mt_9 _ (List.mem_of_getElem? (i := 5) rfl)) rfl
theorem gw_1926 : Jvm.Cond.code ({ cls := "CoinKeeperModel", name := "hashed", desc := "(I)Z" } : Jvm.MethodName) prog_14_method_54_code (4 : Nat) (Option.some Jvm.ClassFile.FieldType.boolean) ∈ gw := gw_of (mt_9 _ (List.mem_of_getElem? (i := 6) rfl)) rfl
theorem gw_1927 : Jvm.Cond.methodLink "CoinKeeperModel" (510 : Nat) ({ cls := "CoinKeeperModel", name := "ripemd", desc := "([BII)V" } : Jvm.MethodName) ∈ gw := gw_of (mt_9 _ (List.mem_of_getElem? (i := 7) rfl)) rfl
theorem mw_1928 : Jvm.Cond.privateMethod ({ cls := "CoinKeeperModel", name := "ripemd", desc := "([BII)V" } : Jvm.MethodName) ∈ lw_tbl := mt_9 _ (List.mem_of_getElem? (i := 8) rfl)
theorem gw_1929 : Jvm.Cond.instanceMethod ({ cls := "CoinKeeperModel", name := "ripemd", desc := "([BII)V" } : Jvm.MethodName) ∈ gw := gw_of (mt_9 _ (List.mem_of_getElem? (i := 9) rfl)) rfl
theorem gw_1930 : Jvm.Cond.code ({ cls := "CoinKeeperModel", name := "ripemd", desc := "([BII)V" } : Jvm.MethodName) prog_14_method_9_code (25 : Nat) (Option.none : Option Jvm.ClassFile.FieldType) ∈ gw := gw_of (mt_9 _ (List.mem_of_getElem? (i := 10) rfl)) rfl
theorem gw_1931 : Jvm.Cond.constant "CoinKeeperModel" (297 : Nat) (1732584193 : Int32) ∈ gw := gw_of (mt_9 _ (List.mem_of_getElem? (i := 11) rfl)) rfl
theorem gw_1932 : Jvm.Cond.constant "CoinKeeperModel" (298 : Nat) (-271733879 : Int32) ∈ gw := gw_of (mt_9 _ (List.mem_of_getElem? (i := 12) rfl)) rfl
theorem gw_1933 : Jvm.Cond.constant "CoinKeeperModel" (299 : Nat) (-1732584194 : Int32) ∈ gw := gw_of (mt_9 _ (List.mem_of_getElem? (i := 13) rfl)) rfl
theorem gw_1934 : Jvm.Cond.constant "CoinKeeperModel" (300 : Nat) (271733878 : Int32) ∈ gw := gw_of (mt_9 _ (List.mem_of_getElem? (i := 14) rfl)) rfl
theorem gw_1935 : Jvm.Cond.constant "CoinKeeperModel" (301 : Nat) (-1009589776 : Int32) ∈ gw := gw_of (mt_9 _ (List.mem_of_getElem? (i := 15) rfl)) rfl
theorem gw_1936 : Jvm.Cond.methodLink "CoinKeeperModel" (302 : Nat) ({ cls := "CoinKeeperModel", name := "mix", desc := "(IIII)I" } : Jvm.MethodName) ∈ gw := gw_of (mt_9 _ (List.mem_of_getElem? (i := 16) rfl)) rfl
theorem gw_1937 : Jvm.Cond.static ({ cls := "CoinKeeperModel", name := "mix", desc := "(IIII)I" } : Jvm.MethodName) ∈ gw := gw_of (mt_9 _ (List.mem_of_getElem? (i := 17) rfl)) rfl
theorem gw_1938 : Jvm.Cond.code ({ cls := "CoinKeeperModel", name := "mix", desc := "(IIII)I" } : Jvm.MethodName) prog_14_method_8_code (4 : Nat) (Option.some Jvm.ClassFile.FieldType.int) ∈ gw := gw_of (mt_9 _ (List.mem_of_getElem? (i := 18) rfl)) rfl
theorem gw_1939 : Jvm.Cond.fieldLink "CoinKeeperModel" (306 : Nat) "CoinKeeperModel" "RL" "[I" ∈ gw := gw_of (mt_9 _ (List.mem_of_getElem? (i := 19) rfl)) rfl
theorem mw_1940 : Jvm.Cond.laysStatic "CoinKeeperModel" "RL" "[I" ∈ lw_tbl := mt_9 _ (List.mem_of_getElem? (i := 20) rfl)
theorem gw_1941 : Jvm.Cond.fieldLink "CoinKeeperModel" (312 : Nat) "CoinKeeperModel" "KL" "[I" ∈ gw := gw_of (mt_9 _ (List.mem_of_getElem? (i := 21) rfl)) rfl
theorem mw_1942 : Jvm.Cond.laysStatic "CoinKeeperModel" "KL" "[I" ∈ lw_tbl := mt_9 _ (List.mem_of_getElem? (i := 22) rfl)
theorem gw_1943 : Jvm.Cond.fieldLink "CoinKeeperModel" (315 : Nat) "CoinKeeperModel" "SL" "[I" ∈ gw := gw_of (mt_9 _ (List.mem_of_getElem? (i := 23) rfl)) rfl
theorem mw_1944 : Jvm.Cond.laysStatic "CoinKeeperModel" "SL" "[I" ∈ lw_tbl := mt_9 _ (List.mem_of_getElem? (i := 24) rfl)
theorem gw_1945 : Jvm.Cond.fieldLink "CoinKeeperModel" (318 : Nat) "CoinKeeperModel" "RR" "[I" ∈ gw := gw_of (mt_9 _ (List.mem_of_getElem? (i := 25) rfl)) rfl
theorem mw_1946 : Jvm.Cond.laysStatic "CoinKeeperModel" "RR" "[I" ∈ lw_tbl := mt_9 _ (List.mem_of_getElem? (i := 26) rfl)
theorem gw_1947 : Jvm.Cond.fieldLink "CoinKeeperModel" (321 : Nat) "CoinKeeperModel" "KR" "[I" ∈ gw := gw_of (mt_9 _ (List.mem_of_getElem? (i := 27) rfl)) rfl
theorem mw_1948 : Jvm.Cond.laysStatic "CoinKeeperModel" "KR" "[I" ∈ lw_tbl := mt_9 _ (List.mem_of_getElem? (i := 28) rfl)
theorem gw_1949 : Jvm.Cond.fieldLink "CoinKeeperModel" (324 : Nat) "CoinKeeperModel" "SR" "[I" ∈ gw := gw_of (mt_9 _ (List.mem_of_getElem? (i := 29) rfl)) rfl
theorem mw_1950 : Jvm.Cond.laysStatic "CoinKeeperModel" "SR" "[I" ∈ lw_tbl := mt_9 _ (List.mem_of_getElem? (i := 30) rfl)
theorem gw_1951 : Jvm.Cond.methodLink "CoinKeeperModel" (503 : Nat) ({ cls := "CoinKeeperModel", name := "isSig", desc := "(II)Z" } : Jvm.MethodName) ∈ gw := gw_of (mt_9 _ (List.mem_of_getElem? (i := 31) rfl)) rfl
theorem mw_1952 : Jvm.Cond.privateMethod ({ cls := "CoinKeeperModel", name := "isSig", desc := "(II)Z" } : Jvm.MethodName) ∈ lw_tbl := mt_9 _ (List.mem_of_getElem? (i := 32) rfl)
theorem gw_1953 : Jvm.Cond.instanceMethod ({ cls := "CoinKeeperModel", name := "isSig", desc := "(II)Z" } : Jvm.MethodName) ∈ gw := gw_of (mt_9 _ (List.mem_of_getElem? (i := 33) rfl)) rfl
theorem gw_1954 : Jvm.Cond.code ({ cls := "CoinKeeperModel", name := "isSig", desc := "(II)Z" } : Jvm.MethodName) prog_14_method_55_code (4 : Nat) (Option.some Jvm.ClassFile.FieldType.boolean) ∈ gw := gw_of (mt_9 _ (List.mem_of_getElem? (i := 34) rfl)) rfl
theorem gw_1955 : Jvm.Cond.methodLink "CoinKeeperModel" (516 : Nat) ({ cls := "CoinKeeperModel", name := "message", desc := "()I" } : Jvm.MethodName) ∈ gw := gw_of (mt_9 _ (List.mem_of_getElem? (i := 35) rfl)) rfl
theorem mw_1956 : Jvm.Cond.privateMethod ({ cls := "CoinKeeperModel", name := "message", desc := "()I" } : Jvm.MethodName) ∈ lw_tbl := mt_9 _ (List.mem_of_getElem? (i := 36) rfl)
theorem gw_1957 : Jvm.Cond.instanceMethod ({ cls := "CoinKeeperModel", name := "message", desc := "()I" } : Jvm.MethodName) ∈ gw := gw_of (mt_9 _ (List.mem_of_getElem? (i := 37) rfl)) rfl
theorem gw_1958 : Jvm.Cond.code ({ cls := "CoinKeeperModel", name := "message", desc := "()I" } : Jvm.MethodName) prog_14_method_57_code (6 : Nat) (Option.some Jvm.ClassFile.FieldType.int) ∈ gw := gw_of (mt_9 _ (List.mem_of_getElem? (i := 38) rfl)) rfl
theorem gw_1959 : Jvm.Cond.methodLink "CoinKeeperModel" (531 : Nat) ({ cls := "CoinKeeperModel", name := "count", desc := "(II)I" } : Jvm.MethodName) ∈ gw := gw_of (mt_9 _ (List.mem_of_getElem? (i := 39) rfl)) rfl
theorem mw_1960 : Jvm.Cond.privateMethod ({ cls := "CoinKeeperModel", name := "count", desc := "(II)I" } : Jvm.MethodName) ∈ lw_tbl := mt_9 _ (List.mem_of_getElem? (i := 40) rfl)
theorem gw_1961 : Jvm.Cond.instanceMethod ({ cls := "CoinKeeperModel", name := "count", desc := "(II)I" } : Jvm.MethodName) ∈ gw := gw_of (mt_9 _ (List.mem_of_getElem? (i := 41) rfl)) rfl
theorem gw_1962 : Jvm.Cond.code ({ cls := "CoinKeeperModel", name := "count", desc := "(II)I" } : Jvm.MethodName) prog_14_method_58_code (4 : Nat) (Option.some Jvm.ClassFile.FieldType.int) ∈ gw := gw_of (mt_9 _ (List.mem_of_getElem? (i := 42) rfl)) rfl
theorem gw_1963 : Jvm.Cond.methodLink "CoinKeeperModel" (522 : Nat) ({ cls := "CoinKeeperModel", name := "isSigned", desc := "([BII[BII)Z" } : Jvm.MethodName) ∈ gw := gw_of (mt_9 _ (List.mem_of_getElem? (i := 43) rfl)) rfl
theorem mw_1964 : Jvm.Cond.privateMethod ({ cls := "CoinKeeperModel", name := "isSigned", desc := "([BII[BII)Z" } : Jvm.MethodName) ∈ lw_tbl := mt_9 _ (List.mem_of_getElem? (i := 44) rfl)
theorem gw_1965 : Jvm.Cond.instanceMethod ({ cls := "CoinKeeperModel", name := "isSigned", desc := "([BII[BII)Z" } : Jvm.MethodName) ∈ gw := gw_of (mt_9 _ (List.mem_of_getElem? (i := 45) rfl)) rfl
theorem gw_1966 : Jvm.Cond.code ({ cls := "CoinKeeperModel", name := "isSigned", desc := "([BII[BII)Z" } : Jvm.MethodName) prog_14_method_37_code (11 : Nat) (Option.some Jvm.ClassFile.FieldType.boolean) ∈ gw := gw_of (mt_9 _ (List.mem_of_getElem? (i := 46) rfl)) rfl
theorem gw_1967 : Jvm.Cond.methodLink "CoinKeeperModel" (417 : Nat) ({ cls := "CoinKeeperModel", name := "isKey", desc := "([BII)Z" } : Jvm.MethodName) ∈ gw := gw_of (mt_9 _ (List.mem_of_getElem? (i := 47) rfl)) rfl
theorem mw_1968 : Jvm.Cond.privateMethod ({ cls := "CoinKeeperModel", name := "isKey", desc := "([BII)Z" } : Jvm.MethodName) ∈ lw_tbl := mt_9 _ (List.mem_of_getElem? (i := 48) rfl)
theorem gw_1969 : Jvm.Cond.instanceMethod ({ cls := "CoinKeeperModel", name := "isKey", desc := "([BII)Z" } : Jvm.MethodName) ∈ gw := gw_of (mt_9 _ (List.mem_of_getElem? (i := 49) rfl)) rfl
theorem gw_1970 : Jvm.Cond.code ({ cls := "CoinKeeperModel", name := "isKey", desc := "([BII)Z" } : Jvm.MethodName) prog_14_method_33_code (6 : Nat) (Option.some Jvm.ClassFile.FieldType.boolean) ∈ gw := gw_of (mt_9 _ (List.mem_of_getElem? (i := 50) rfl)) rfl
theorem gw_1971 : Jvm.Cond.methodLink "CoinKeeperModel" (405 : Nat) ({ cls := "CoinKeeperModel", name := "read", desc := "([I[BII)V" } : Jvm.MethodName) ∈ gw := gw_of (mt_9 _ (List.mem_of_getElem? (i := 51) rfl)) rfl
theorem gw_1972 : Jvm.Cond.static ({ cls := "CoinKeeperModel", name := "read", desc := "([I[BII)V" } : Jvm.MethodName) ∈ gw := gw_of (mt_9 _ (List.mem_of_getElem? (i := 52) rfl)) rfl
theorem gw_1973 : Jvm.Cond.code ({ cls := "CoinKeeperModel", name := "read", desc := "([I[BII)V" } : Jvm.MethodName) prog_14_method_32_code (5 : Nat) (Option.none : Option Jvm.ClassFile.FieldType) ∈ gw := gw_of (mt_9 _ (List.mem_of_getElem? (i := 53) rfl)) rfl
theorem gw_1974 : Jvm.Cond.fieldLink "CoinKeeperModel" (375 : Nat) "CoinKeeperModel" "P" "[I" ∈ gw := gw_of (mt_9 _ (List.mem_of_getElem? (i := 54) rfl)) rfl
theorem mw_1975 : Jvm.Cond.laysStatic "CoinKeeperModel" "P" "[I" ∈ lw_tbl := mt_9 _ (List.mem_of_getElem? (i := 55) rfl)
theorem gw_1976 : Jvm.Cond.methodLink "CoinKeeperModel" (392 : Nat) ({ cls := "CoinKeeperModel", name := "times", desc := "([I[I[I)V" } : Jvm.MethodName) ∈ gw := gw_of (mt_9 _ (List.mem_of_getElem? (i := 56) rfl)) rfl
theorem mw_1977 : Jvm.Cond.privateMethod ({ cls := "CoinKeeperModel", name := "times", desc := "([I[I[I)V" } : Jvm.MethodName) ∈ lw_tbl := mt_9 _ (List.mem_of_getElem? (i := 57) rfl)
theorem gw_1978 : Jvm.Cond.instanceMethod ({ cls := "CoinKeeperModel", name := "times", desc := "([I[I[I)V" } : Jvm.MethodName) ∈ gw := gw_of (mt_9 _ (List.mem_of_getElem? (i := 58) rfl)) rfl
theorem gw_1979 : Jvm.Cond.code ({ cls := "CoinKeeperModel", name := "times", desc := "([I[I[I)V" } : Jvm.MethodName) prog_14_method_24_code (9 : Nat) (Option.none : Option Jvm.ClassFile.FieldType) ∈ gw := gw_of (mt_9 _ (List.mem_of_getElem? (i := 59) rfl)) rfl
theorem gw_1980 : Jvm.Cond.methodLink "CoinKeeperModel" (370 : Nat) ({ cls := "CoinKeeperModel", name := "multiply", desc := "([I[I)V" } : Jvm.MethodName) ∈ gw := gw_of (mt_9 _ (List.mem_of_getElem? (i := 60) rfl)) rfl
theorem mw_1981 : Jvm.Cond.privateMethod ({ cls := "CoinKeeperModel", name := "multiply", desc := "([I[I)V" } : Jvm.MethodName) ∈ lw_tbl := mt_9 _ (List.mem_of_getElem? (i := 61) rfl)
theorem gw_1982 : Jvm.Cond.instanceMethod ({ cls := "CoinKeeperModel", name := "multiply", desc := "([I[I)V" } : Jvm.MethodName) ∈ gw := gw_of (mt_9 _ (List.mem_of_getElem? (i := 62) rfl)) rfl
theorem gw_1983 : Jvm.Cond.code ({ cls := "CoinKeeperModel", name := "multiply", desc := "([I[I)V" } : Jvm.MethodName) prog_14_method_23_code (7 : Nat) (Option.none : Option Jvm.ClassFile.FieldType) ∈ gw := gw_of (mt_9 _ (List.mem_of_getElem? (i := 63) rfl)) rfl
theorem gw_1984 : Jvm.Cond.constantLong "CoinKeeperModel" (373 : Nat) (977 : Int64) ∈ gw := gw_of (mt_9 _ (List.mem_of_getElem? (i := 64) rfl)) rfl
theorem gw_1985 : Jvm.Cond.methodLink "CoinKeeperModel" (396 : Nat) ({ cls := "CoinKeeperModel", name := "plus", desc := "([I[I[I)V" } : Jvm.MethodName) ∈ gw := gw_of (mt_9 _ (List.mem_of_getElem? (i := 65) rfl)) rfl
theorem gw_1986 : Jvm.Cond.static ({ cls := "CoinKeeperModel", name := "plus", desc := "([I[I[I)V" } : Jvm.MethodName) ∈ gw := gw_of (mt_9 _ (List.mem_of_getElem? (i := 66) rfl)) rfl
theorem gw_1987 : Jvm.Cond.code ({ cls := "CoinKeeperModel", name := "plus", desc := "([I[I[I)V" } : Jvm.MethodName) prog_14_method_26_code (3 : Nat) (Option.none : Option Jvm.ClassFile.FieldType) ∈ gw := gw_of (mt_9 _ (List.mem_of_getElem? (i := 67) rfl)) rfl
theorem gw_1988 : Jvm.Cond.methodLink "CoinKeeperModel" (381 : Nat) ({ cls := "CoinKeeperModel", name := "half", desc := "([II)V" } : Jvm.MethodName) ∈ gw := gw_of (mt_9 _ (List.mem_of_getElem? (i := 68) rfl)) rfl
theorem gw_1989 : Jvm.Cond.static ({ cls := "CoinKeeperModel", name := "half", desc := "([II)V" } : Jvm.MethodName) ∈ gw := gw_of (mt_9 _ (List.mem_of_getElem? (i := 69) rfl)) rfl
theorem gw_1990 : Jvm.Cond.code ({ cls := "CoinKeeperModel", name := "half", desc := "([II)V" } : Jvm.MethodName) prog_14_method_27_code (3 : Nat) (Option.none : Option Jvm.ClassFile.FieldType) ∈ gw := gw_of (mt_9 _ (List.mem_of_getElem? (i := 70) rfl)) rfl
theorem gw_1991 : Jvm.Cond.methodLink "CoinKeeperModel" (420 : Nat) ({ cls := "CoinKeeperModel", name := "isSignature", desc := "([BII)Z" } : Jvm.MethodName) ∈ gw := gw_of (mt_9 _ (List.mem_of_getElem? (i := 71) rfl)) rfl
theorem mw_1992 : Jvm.Cond.privateMethod ({ cls := "CoinKeeperModel", name := "isSignature", desc := "([BII)Z" } : Jvm.MethodName) ∈ lw_tbl := mt_9 _ (List.mem_of_getElem? (i := 72) rfl)
theorem gw_1993 : Jvm.Cond.instanceMethod ({ cls := "CoinKeeperModel", name := "isSignature", desc := "([BII)Z" } : Jvm.MethodName) ∈ gw := gw_of (mt_9 _ (List.mem_of_getElem? (i := 73) rfl)) rfl
theorem gw_1994 : Jvm.Cond.code ({ cls := "CoinKeeperModel", name := "isSignature", desc := "([BII)Z" } : Jvm.MethodName) prog_14_method_35_code (6 : Nat) (Option.some Jvm.ClassFile.FieldType.boolean) ∈ gw := gw_of (mt_9 _ (List.mem_of_getElem? (i := 74) rfl)) rfl
theorem gw_1995 : Jvm.Cond.methodLink "CoinKeeperModel" (409 : Nat) ({ cls := "CoinKeeperModel", name := "isWhole", desc := "([BII)Z" } : Jvm.MethodName) ∈ gw := gw_of (mt_9 _ (List.mem_of_getElem? (i := 75) rfl)) rfl
theorem mw_1996 : Jvm.Cond.privateMethod ({ cls := "CoinKeeperModel", name := "isWhole", desc := "([BII)Z" } : Jvm.MethodName) ∈ lw_tbl := mt_9 _ (List.mem_of_getElem? (i := 76) rfl)
theorem gw_1997 : Jvm.Cond.instanceMethod ({ cls := "CoinKeeperModel", name := "isWhole", desc := "([BII)Z" } : Jvm.MethodName) ∈ gw := gw_of (mt_9 _ (List.mem_of_getElem? (i := 77) rfl)) rfl
theorem gw_1998 : Jvm.Cond.code ({ cls := "CoinKeeperModel", name := "isWhole", desc := "([BII)Z" } : Jvm.MethodName) prog_14_method_34_code (4 : Nat) (Option.some Jvm.ClassFile.FieldType.boolean) ∈ gw := gw_of (mt_9 _ (List.mem_of_getElem? (i := 78) rfl)) rfl
theorem gw_1999 : Jvm.Cond.methodLink "CoinKeeperModel" (413 : Nat) ({ cls := "CoinKeeperModel", name := "isScalar", desc := "([I[BII)Z" } : Jvm.MethodName) ∈ gw := gw_of (mt_9 _ (List.mem_of_getElem? (i := 79) rfl)) rfl
theorem mw_2000 : Jvm.Cond.privateMethod ({ cls := "CoinKeeperModel", name := "isScalar", desc := "([I[BII)Z" } : Jvm.MethodName) ∈ lw_tbl := mt_9 _ (List.mem_of_getElem? (i := 80) rfl)
theorem gw_2001 : Jvm.Cond.instanceMethod ({ cls := "CoinKeeperModel", name := "isScalar", desc := "([I[BII)Z" } : Jvm.MethodName) ∈ gw := gw_of (mt_9 _ (List.mem_of_getElem? (i := 81) rfl)) rfl
theorem gw_2002 : Jvm.Cond.code ({ cls := "CoinKeeperModel", name := "isScalar", desc := "([I[BII)Z" } : Jvm.MethodName) prog_14_method_36_code (7 : Nat) (Option.some Jvm.ClassFile.FieldType.boolean) ∈ gw := gw_of (mt_9 _ (List.mem_of_getElem? (i := 82) rfl)) rfl
theorem gw_2003 : Jvm.Cond.fieldLink "CoinKeeperModel" (385 : Nat) "CoinKeeperModel" "N" "[I" ∈ gw := gw_of (mt_9 _ (List.mem_of_getElem? (i := 83) rfl)) rfl
theorem mw_2004 : Jvm.Cond.laysStatic "CoinKeeperModel" "N" "[I" ∈ lw_tbl := mt_9 _ (List.mem_of_getElem? (i := 84) rfl)
theorem gw_2005 : Jvm.Cond.methodLink "CoinKeeperModel" (402 : Nat) ({ cls := "CoinKeeperModel", name := "inverse", desc := "([I[I[I)V" } : Jvm.MethodName) ∈ gw := gw_of (mt_9 _ (List.mem_of_getElem? (i := 85) rfl)) rfl
theorem mw_2006 : Jvm.Cond.privateMethod ({ cls := "CoinKeeperModel", name := "inverse", desc := "([I[I[I)V" } : Jvm.MethodName) ∈ lw_tbl := mt_9 _ (List.mem_of_getElem? (i := 86) rfl)
theorem gw_2007 : Jvm.Cond.instanceMethod ({ cls := "CoinKeeperModel", name := "inverse", desc := "([I[I[I)V" } : Jvm.MethodName) ∈ gw := gw_of (mt_9 _ (List.mem_of_getElem? (i := 87) rfl)) rfl
theorem gw_2008 : Jvm.Cond.code ({ cls := "CoinKeeperModel", name := "inverse", desc := "([I[I[I)V" } : Jvm.MethodName) prog_14_method_29_code (5 : Nat) (Option.none : Option Jvm.ClassFile.FieldType) ∈ gw := gw_of (mt_9 _ (List.mem_of_getElem? (i := 88) rfl)) rfl
theorem gw_2009 : Jvm.Cond.methodLink "CoinKeeperModel" (378 : Nat) ({ cls := "CoinKeeperModel", name := "isOne", desc := "([I)Z" } : Jvm.MethodName) ∈ gw := gw_of (mt_9 _ (List.mem_of_getElem? (i := 89) rfl)) rfl
theorem gw_2010 : Jvm.Cond.static ({ cls := "CoinKeeperModel", name := "isOne", desc := "([I)Z" } : Jvm.MethodName) ∈ gw := gw_of (mt_9 _ (List.mem_of_getElem? (i := 90) rfl)) rfl
theorem gw_2011 : Jvm.Cond.code ({ cls := "CoinKeeperModel", name := "isOne", desc := "([I)Z" } : Jvm.MethodName) prog_14_method_28_code (2 : Nat) (Option.some Jvm.ClassFile.FieldType.boolean) ∈ gw := gw_of (mt_9 _ (List.mem_of_getElem? (i := 91) rfl)) rfl
theorem gw_2012 : Jvm.Cond.methodLink "CoinKeeperModel" (423 : Nat) ({ cls := "CoinKeeperModel", name := "timesN", desc := "([I[I[I)V" } : Jvm.MethodName) ∈ gw := gw_of (mt_9 _ (List.mem_of_getElem? (i := 92) rfl)) rfl
theorem mw_2013 : Jvm.Cond.privateMethod ({ cls := "CoinKeeperModel", name := "timesN", desc := "([I[I[I)V" } : Jvm.MethodName) ∈ lw_tbl := mt_9 _ (List.mem_of_getElem? (i := 93) rfl)
theorem gw_2014 : Jvm.Cond.instanceMethod ({ cls := "CoinKeeperModel", name := "timesN", desc := "([I[I[I)V" } : Jvm.MethodName) ∈ gw := gw_of (mt_9 _ (List.mem_of_getElem? (i := 94) rfl)) rfl
theorem gw_2015 : Jvm.Cond.code ({ cls := "CoinKeeperModel", name := "timesN", desc := "([I[I[I)V" } : Jvm.MethodName) prog_14_method_30_code (6 : Nat) (Option.none : Option Jvm.ClassFile.FieldType) ∈ gw := gw_of (mt_9 _ (List.mem_of_getElem? (i := 95) rfl)) rfl
theorem gw_2016 : Jvm.Cond.fieldLink "CoinKeeperModel" (426 : Nat) "CoinKeeperModel" "GX" "[I" ∈ gw := gw_of (mt_9 _ (List.mem_of_getElem? (i := 96) rfl)) rfl
theorem mw_2017 : Jvm.Cond.laysStatic "CoinKeeperModel" "GX" "[I" ∈ lw_tbl := mt_9 _ (List.mem_of_getElem? (i := 97) rfl)
theorem gw_2018 : Jvm.Cond.fieldLink "CoinKeeperModel" (429 : Nat) "CoinKeeperModel" "GY" "[I" ∈ gw := gw_of (mt_9 _ (List.mem_of_getElem? (i := 98) rfl)) rfl
theorem mw_2019 : Jvm.Cond.laysStatic "CoinKeeperModel" "GY" "[I" ∈ lw_tbl := mt_9 _ (List.mem_of_getElem? (i := 99) rfl)
theorem gw_2020 : Jvm.Cond.methodLink "CoinKeeperModel" (432 : Nat) ({ cls := "CoinKeeperModel", name := "join", desc := "([I[IZ)V" } : Jvm.MethodName) ∈ gw := gw_of (mt_9 _ (List.mem_of_getElem? (i := 100) rfl)) rfl
theorem mw_2021 : Jvm.Cond.privateMethod ({ cls := "CoinKeeperModel", name := "join", desc := "([I[IZ)V" } : Jvm.MethodName) ∈ lw_tbl := mt_9 _ (List.mem_of_getElem? (i := 101) rfl)
theorem gw_2022 : Jvm.Cond.instanceMethod ({ cls := "CoinKeeperModel", name := "join", desc := "([I[IZ)V" } : Jvm.MethodName) ∈ gw := gw_of (mt_9 _ (List.mem_of_getElem? (i := 102) rfl)) rfl
theorem gw_2023 : Jvm.Cond.code ({ cls := "CoinKeeperModel", name := "join", desc := "([I[IZ)V" } : Jvm.MethodName) prog_14_method_31_code (5 : Nat) (Option.none : Option Jvm.ClassFile.FieldType) ∈ gw := gw_of (mt_9 _ (List.mem_of_getElem? (i := 103) rfl)) rfl
theorem gw_2024 : Jvm.Cond.methodLink "CoinKeeperModel" (399 : Nat) ({ cls := "CoinKeeperModel", name := "minus", desc := "([I[I[I)V" } : Jvm.MethodName) ∈ gw := gw_of (mt_9 _ (List.mem_of_getElem? (i := 104) rfl)) rfl
theorem gw_2025 : Jvm.Cond.static ({ cls := "CoinKeeperModel", name := "minus", desc := "([I[I[I)V" } : Jvm.MethodName) ∈ gw := gw_of (mt_9 _ (List.mem_of_getElem? (i := 105) rfl)) rfl
theorem gw_2026 : Jvm.Cond.code ({ cls := "CoinKeeperModel", name := "minus", desc := "([I[I[I)V" } : Jvm.MethodName) prog_14_method_25_code (3 : Nat) (Option.none : Option Jvm.ClassFile.FieldType) ∈ gw := gw_of (mt_9 _ (List.mem_of_getElem? (i := 106) rfl)) rfl
theorem gw_2027 : Jvm.Cond.methodLink "CoinKeeperModel" (436 : Nat) ({ cls := "CoinKeeperModel", name := "other", desc := "([I[I)V" } : Jvm.MethodName) ∈ gw := gw_of (mt_9 _ (List.mem_of_getElem? (i := 107) rfl)) rfl
theorem mw_2028 : Jvm.Cond.privateMethod ({ cls := "CoinKeeperModel", name := "other", desc := "([I[I)V" } : Jvm.MethodName) ∈ lw_tbl := mt_9 _ (List.mem_of_getElem? (i := 108) rfl)
theorem gw_2029 : Jvm.Cond.instanceMethod ({ cls := "CoinKeeperModel", name := "other", desc := "([I[I)V" } : Jvm.MethodName) ∈ gw := gw_of (mt_9 _ (List.mem_of_getElem? (i := 109) rfl)) rfl
theorem gw_2030 : Jvm.Cond.code ({ cls := "CoinKeeperModel", name := "other", desc := "([I[I)V" } : Jvm.MethodName) prog_14_method_38_code (3 : Nat) (Option.none : Option Jvm.ClassFile.FieldType) ∈ gw := gw_of (mt_9 _ (List.mem_of_getElem? (i := 110) rfl)) rfl
theorem gw_2031 : Jvm.Cond.methodLink "CoinKeeperModel" (506 : Nat) ({ cls := "CoinKeeperModel", name := "many", desc := "(Z)Z" } : Jvm.MethodName) ∈ gw := gw_of (mt_9 _ (List.mem_of_getElem? (i := 111) rfl)) rfl
theorem mw_2032 : Jvm.Cond.privateMethod ({ cls := "CoinKeeperModel", name := "many", desc := "(Z)Z" } : Jvm.MethodName) ∈ lw_tbl := mt_9 _ (List.mem_of_getElem? (i := 112) rfl)
theorem gw_2033 : Jvm.Cond.instanceMethod ({ cls := "CoinKeeperModel", name := "many", desc := "(Z)Z" } : Jvm.MethodName) ∈ gw := gw_of (mt_9 _ (List.mem_of_getElem? (i := 113) rfl)) rfl
theorem gw_2034 : Jvm.Cond.code ({ cls := "CoinKeeperModel", name := "many", desc := "(Z)Z" } : Jvm.MethodName) prog_14_method_56_code (12 : Nat) (Option.some Jvm.ClassFile.FieldType.boolean) ∈ gw := gw_of (mt_9 _ (List.mem_of_getElem? (i := 114) rfl)) rfl
theorem gw_2035 : Jvm.Cond.constantLong "CoinKeeperModel" (526 : Nat) (20 : Int64) ∈ gw := gw_of (mt_9 _ (List.mem_of_getElem? (i := 115) rfl)) rfl
theorem gw_2036 : Jvm.Cond.constantLong "CoinKeeperModel" (645 : Nat) (5000000000 : Int64) ∈ gw := gw_of (mt_9 _ (List.mem_of_getElem? (i := 116) rfl)) rfl
theorem gw_2037 : Jvm.Cond.methodLink "CoinKeeperLaw" (70 : Nat) ({ cls := "CoinKeeperModel", name := "script", desc := "(I)Z" } : Jvm.MethodName) ∈ gw := gw_of (mt_9 _ (List.mem_of_getElem? (i := 117) rfl)) rfl
theorem gw_2038 : Jvm.Cond.instanceMethod ({ cls := "CoinKeeperModel", name := "script", desc := "(I)Z" } : Jvm.MethodName) ∈ gw := gw_of (mt_9 _ (List.mem_of_getElem? (i := 118) rfl)) rfl
theorem gw_2039 : Jvm.Cond.selects "CoinKeeperModel" ({ cls := "CoinKeeperModel", name := "script", desc := "(I)Z" } : Jvm.MethodName) ({ cls := "CoinKeeperModel", name := "script", desc := "(I)Z" } : Jvm.MethodName) ∈ gw := gw_of (mt_9 _ (List.mem_of_getElem? (i := 119) rfl)) rfl
theorem gw_2040 : Jvm.Cond.code ({ cls := "CoinKeeperModel", name := "script", desc := "(I)Z" } : Jvm.MethodName) prog_14_method_85_code (3 : Nat) (Option.some Jvm.ClassFile.FieldType.boolean) ∈ gw := gw_of (mt_9 _ (List.mem_of_getElem? (i := 120) rfl)) rfl
theorem gw_2041 : Jvm.Cond.methodLink "CoinKeeperLaw" (73 : Nat) ({ cls := "CoinKeeperModel", name := "hash", desc := "(I)I" } : Jvm.MethodName) ∈ gw := gw_of (mt_9 _ (List.mem_of_getElem? (i := 121) rfl)) rfl
theorem gw_2042 : Jvm.Cond.instanceMethod ({ cls := "CoinKeeperModel", name := "hash", desc := "(I)I" } : Jvm.MethodName) ∈ gw := gw_of (mt_9 _ (List.mem_of_getElem? (i := 122) rfl)) rfl
theorem gw_2043 : Jvm.Cond.selects "CoinKeeperModel" ({ cls := "CoinKeeperModel", name := "hash", desc := "(I)I" } : Jvm.MethodName) ({ cls := "CoinKeeperModel", name := "hash", desc := "(I)I" } : Jvm.MethodName) ∈ gw := gw_of (mt_9 _ (List.mem_of_getElem? (i := 123) rfl)) rfl
theorem gw_2044 : Jvm.Cond.code ({ cls := "CoinKeeperModel", name := "hash", desc := "(I)I" } : Jvm.MethodName) prog_14_method_86_code (2 : Nat) (Option.some Jvm.ClassFile.FieldType.int) ∈ gw := gw_of (mt_9 _ (List.mem_of_getElem? (i := 124) rfl)) rfl
theorem gw_2045 : Jvm.Cond.methodLink "CoinKeeperLaw" (76 : Nat) ({ cls := "CoinKeeperModel", name := "tip", desc := "(I)I" } : Jvm.MethodName) ∈ gw := gw_of (mt_9 _ (List.mem_of_getElem? (i := 125) rfl)) rfl
theorem gw_2046 : Jvm.Cond.instanceMethod ({ cls := "CoinKeeperModel", name := "tip", desc := "(I)I" } : Jvm.MethodName) ∈ gw := gw_of (mt_9 _ (List.mem_of_getElem? (i := 126) rfl)) rfl
theorem gw_2047 : Jvm.Cond.selects "CoinKeeperModel" ({ cls := "CoinKeeperModel", name := "tip", desc := "(I)I" } : Jvm.MethodName) ({ cls := "CoinKeeperModel", name := "tip", desc := "(I)I" } : Jvm.MethodName) ∈ gw := gw_of (mt_9 _ (List.mem_of_getElem? (i := 127) rfl)) rfl
theorem gw_2048 : Jvm.Cond.code ({ cls := "CoinKeeperModel", name := "tip", desc := "(I)I" } : Jvm.MethodName) prog_14_method_87_code (2 : Nat) (Option.some Jvm.ClassFile.FieldType.int) ∈ gw := gw_of (mt_9 _ (List.mem_of_getElem? (i := 128) rfl)) rfl
theorem gw_2049 : Jvm.Cond.methodLink "CoinKeeperLaw" (79 : Nat) ({ cls := "CoinKeeperModel", name := "unspent", desc := "(I)J" } : Jvm.MethodName) ∈ gw := gw_of (mt_9 _ (List.mem_of_getElem? (i := 129) rfl)) rfl
theorem gw_2050 : Jvm.Cond.instanceMethod ({ cls := "CoinKeeperModel", name := "unspent", desc := "(I)J" } : Jvm.MethodName) ∈ gw := gw_of (mt_9 _ (List.mem_of_getElem? (i := 130) rfl)) rfl
theorem gw_2051 : Jvm.Cond.selects "CoinKeeperModel" ({ cls := "CoinKeeperModel", name := "unspent", desc := "(I)J" } : Jvm.MethodName) ({ cls := "CoinKeeperModel", name := "unspent", desc := "(I)J" } : Jvm.MethodName) ∈ gw := gw_of (mt_9 _ (List.mem_of_getElem? (i := 131) rfl)) rfl
theorem gw_2052 : Jvm.Cond.code ({ cls := "CoinKeeperModel", name := "unspent", desc := "(I)J" } : Jvm.MethodName) prog_14_method_88_code (3 : Nat) (Option.some Jvm.ClassFile.FieldType.long) ∈ gw := gw_of (mt_9 _ (List.mem_of_getElem? (i := 132) rfl)) rfl
theorem gw_2053 : Jvm.Cond.methodLink "CoinKeeperLaw" (82 : Nat) ({ cls := "CoinKeeperModel", name := "count", desc := "(I)J" } : Jvm.MethodName) ∈ gw := gw_of (mt_9 _ (List.mem_of_getElem? (i := 133) rfl)) rfl
theorem gw_2054 : Jvm.Cond.instanceMethod ({ cls := "CoinKeeperModel", name := "count", desc := "(I)J" } : Jvm.MethodName) ∈ gw := gw_of (mt_9 _ (List.mem_of_getElem? (i := 134) rfl)) rfl
theorem gw_2055 : Jvm.Cond.selects "CoinKeeperModel" ({ cls := "CoinKeeperModel", name := "count", desc := "(I)J" } : Jvm.MethodName) ({ cls := "CoinKeeperModel", name := "count", desc := "(I)J" } : Jvm.MethodName) ∈ gw := gw_of (mt_9 _ (List.mem_of_getElem? (i := 135) rfl)) rfl
theorem gw_2056 : Jvm.Cond.code ({ cls := "CoinKeeperModel", name := "count", desc := "(I)J" } : Jvm.MethodName) prog_14_method_89_code (5 : Nat) (Option.some Jvm.ClassFile.FieldType.long) ∈ gw := gw_of (mt_9 _ (List.mem_of_getElem? (i := 136) rfl)) rfl
theorem gw_2057 : Jvm.Cond.methodLink "CoinKeeperLaw" (87 : Nat) ({ cls := "CoinKeeperModel", name := "digest", desc := "()J" } : Jvm.MethodName) ∈ gw := gw_of (mt_9 _ (List.mem_of_getElem? (i := 137) rfl)) rfl
theorem gw_2058 : Jvm.Cond.instanceMethod ({ cls := "CoinKeeperModel", name := "digest", desc := "()J" } : Jvm.MethodName) ∈ gw := gw_of (mt_9 _ (List.mem_of_getElem? (i := 138) rfl)) rfl
theorem gw_2059 : Jvm.Cond.selects "CoinKeeperModel" ({ cls := "CoinKeeperModel", name := "digest", desc := "()J" } : Jvm.MethodName) ({ cls := "CoinKeeperModel", name := "digest", desc := "()J" } : Jvm.MethodName) ∈ gw := gw_of (mt_9 _ (List.mem_of_getElem? (i := 139) rfl)) rfl
theorem gw_2060 : Jvm.Cond.code ({ cls := "CoinKeeperModel", name := "digest", desc := "()J" } : Jvm.MethodName) prog_14_method_90_code (8 : Nat) (Option.some Jvm.ClassFile.FieldType.long) ∈ gw := gw_of (mt_9 _ (List.mem_of_getElem? (i := 140) rfl)) rfl
theorem gw_2061 : Jvm.Cond.constantLong "CoinKeeperModel" (678 : Nat) (31 : Int64) ∈ gw := gw_of (mt_9 _ (List.mem_of_getElem? (i := 141) rfl)) rfl
theorem gw_2062 : Jvm.Cond.methodLink "CoinKeeperLaw" (90 : Nat) ({ cls := "CoinKeeperModel", name := "signed", desc := "(I)Z" } : Jvm.MethodName) ∈ gw := gw_of (mt_9 _ (List.mem_of_getElem? (i := 142) rfl)) rfl
theorem gw_2063 : Jvm.Cond.instanceMethod ({ cls := "CoinKeeperModel", name := "signed", desc := "(I)Z" } : Jvm.MethodName) ∈ gw := gw_of (mt_9 _ (List.mem_of_getElem? (i := 143) rfl)) rfl
theorem gw_2064 : Jvm.Cond.selects "CoinKeeperModel" ({ cls := "CoinKeeperModel", name := "signed", desc := "(I)Z" } : Jvm.MethodName) ({ cls := "CoinKeeperModel", name := "signed", desc := "(I)Z" } : Jvm.MethodName) ∈ gw := gw_of (mt_9 _ (List.mem_of_getElem? (i := 144) rfl)) rfl
theorem gw_2065 : Jvm.Cond.code ({ cls := "CoinKeeperModel", name := "signed", desc := "(I)Z" } : Jvm.MethodName) prog_14_method_91_code (3 : Nat) (Option.some Jvm.ClassFile.FieldType.boolean) ∈ gw := gw_of (mt_9 _ (List.mem_of_getElem? (i := 145) rfl)) rfl
theorem gw_2066 : Jvm.Cond.sameMethod "java/lang/Throwable" "java/lang/Throwable" "fillInStackTrace" "(I)Ljava/lang/Throwable;" ∈ gw := gw_of (mt_9 _ (List.mem_of_getElem? (i := 146) rfl)) rfl
theorem mw_2067 : Jvm.Cond.castable "CoinKeeper$Coin" "CoinKeeper$Coin" ∈ lw_tbl := mt_9 _ (List.mem_of_getElem? (i := 147) rfl)
theorem mw_2068 : Jvm.Cond.castable "CoinKeeper$Block" "CoinKeeper$Block" ∈ lw_tbl := mt_9 _ (List.mem_of_getElem? (i := 148) rfl)
theorem gw_2069 : Jvm.Cond.sameMethod "[Ljava/lang/Object;" "java/lang/Object" "getClass" "()Ljava/lang/Class;" ∈ gw := gw_of (mt_9 _ (List.mem_of_getElem? (i := 149) rfl)) rfl
theorem gw_2070 : Jvm.Cond.selects "[Ljava/lang/Object;" ({ cls := "java/lang/Object", name := "getClass", desc := "()Ljava/lang/Class;" } : Jvm.MethodName) ({ cls := "java/lang/Object", name := "getClass", desc := "()Ljava/lang/Class;" } : Jvm.MethodName) ∈ gw := gw_of (mt_9 _ (List.mem_of_getElem? (i := 150) rfl)) rfl
theorem mw_2071 : Jvm.Cond.declares ({ cls := "java/lang/Object", name := "getClass", desc := "()Ljava/lang/Class;" } : Jvm.MethodName) ∈ lw_tbl := mt_9 _ (List.mem_of_getElem? (i := 151) rfl)
theorem mw_2072 : Jvm.Cond.castable "CoinKeeper" "java/lang/Object" ∈ lw_tbl := mt_9 _ (List.mem_of_getElem? (i := 152) rfl)
theorem mw_2073 : Jvm.Cond.castable "CoinKeeper$Sha256" "java/lang/Object" ∈ lw_tbl := mt_9 _ (List.mem_of_getElem? (i := 153) rfl)
theorem mw_2074 : Jvm.Cond.castable "CoinKeeper$Signatures" "java/lang/Object" ∈ lw_tbl := mt_9 _ (List.mem_of_getElem? (i := 154) rfl)
theorem mw_2075 : Jvm.Cond.castable "CoinKeeper$Curve" "java/lang/Object" ∈ lw_tbl := mt_9 _ (List.mem_of_getElem? (i := 155) rfl)
theorem mw_2076 : Jvm.Cond.castable "CoinKeeper$Point" "java/lang/Object" ∈ lw_tbl := mt_9 _ (List.mem_of_getElem? (i := 156) rfl)
theorem mw_2077 : Jvm.Cond.castable "CoinKeeper$Machine" "java/lang/Object" ∈ lw_tbl := mt_9 _ (List.mem_of_getElem? (i := 157) rfl)
theorem mw_2078 : Jvm.Cond.castable "CoinKeeper$Ripemd160" "java/lang/Object" ∈ lw_tbl := mt_9 _ (List.mem_of_getElem? (i := 158) rfl)
theorem mw_2079 : Jvm.Cond.castable "CoinKeeper$Layout" "java/lang/Object" ∈ lw_tbl := mt_9 _ (List.mem_of_getElem? (i := 159) rfl)
theorem mw_2080 : Jvm.Cond.castable "CoinKeeper$Ledger" "java/lang/Object" ∈ lw_tbl := mt_9 _ (List.mem_of_getElem? (i := 160) rfl)
theorem mw_2081 : Jvm.Cond.castable "CoinKeeper$Block" "java/lang/Object" ∈ lw_tbl := mt_9 _ (List.mem_of_getElem? (i := 161) rfl)
theorem mw_2082 : Jvm.Cond.castable "CoinKeeperModel" "java/lang/Object" ∈ lw_tbl := mt_9 _ (List.mem_of_getElem? (i := 162) rfl)
theorem mw_2083 : Jvm.Cond.castable "CoinKeeper$Coin" "java/lang/Object" ∈ lw_tbl := mt_9 _ (List.mem_of_getElem? (i := 163) rfl)
theorem gs_0 : Jvm.Cond.selects "java/util/ArrayList" ({ cls := "java/util/ArrayList", name := "add", desc := "(Ljava/lang/Object;[Ljava/lang/Object;I)V" } : Jvm.MethodName) ({ cls := "java/util/ArrayList", name := "add", desc := "(Ljava/lang/Object;[Ljava/lang/Object;I)V" } : Jvm.MethodName) ∈ gw := gw_of (List.mem_append_left _ (List.mem_of_getElem? (i := 0) rfl)) rfl
theorem gs_1 : Jvm.Cond.selects "java/util/ArrayList" ({ cls := "java/util/ArrayList", name := "grow", desc := "()[Ljava/lang/Object;" } : Jvm.MethodName) ({ cls := "java/util/ArrayList", name := "grow", desc := "()[Ljava/lang/Object;" } : Jvm.MethodName) ∈ gw := gw_of (List.mem_append_left _ (List.mem_of_getElem? (i := 1) rfl)) rfl
theorem gs_2 : Jvm.Cond.selects "java/util/ArrayList" ({ cls := "java/util/ArrayList", name := "grow", desc := "(I)[Ljava/lang/Object;" } : Jvm.MethodName) ({ cls := "java/util/ArrayList", name := "grow", desc := "(I)[Ljava/lang/Object;" } : Jvm.MethodName) ∈ gw := gw_of (List.mem_append_left _ (List.mem_of_getElem? (i := 2) rfl)) rfl
theorem gs_3 : Jvm.Cond.selects "java/lang/Throwable" ({ cls := "java/lang/Throwable", name := "fillInStackTrace", desc := "(I)Ljava/lang/Throwable;" } : Jvm.MethodName) ({ cls := "java/lang/Throwable", name := "fillInStackTrace", desc := "(I)Ljava/lang/Throwable;" } : Jvm.MethodName) ∈ gw := gw_of (List.mem_append_left _ (List.mem_of_getElem? (i := 3) rfl)) rfl
theorem gs_4 : Jvm.Cond.selects "CoinKeeper" ({ cls := "CoinKeeper", name := "append", desc := "(I)V" } : Jvm.MethodName) ({ cls := "CoinKeeper", name := "append", desc := "(I)V" } : Jvm.MethodName) ∈ gw := gw_of (List.mem_append_left _ (List.mem_of_getElem? (i := 4) rfl)) rfl
theorem gs_5 : Jvm.Cond.selects "CoinKeeper" ({ cls := "CoinKeeper", name := "refusal", desc := "(I)I" } : Jvm.MethodName) ({ cls := "CoinKeeper", name := "refusal", desc := "(I)I" } : Jvm.MethodName) ∈ gw := gw_of (List.mem_append_left _ (List.mem_of_getElem? (i := 5) rfl)) rfl
theorem gs_6 : Jvm.Cond.selects "CoinKeeper$Layout" ({ cls := "CoinKeeper$Layout", name := "readCount", desc := "()J" } : Jvm.MethodName) ({ cls := "CoinKeeper$Layout", name := "readCount", desc := "()J" } : Jvm.MethodName) ∈ gw := gw_of (List.mem_append_left _ (List.mem_of_getElem? (i := 6) rfl)) rfl
theorem gs_7 : Jvm.Cond.selects "CoinKeeper$Layout" ({ cls := "CoinKeeper$Layout", name := "readTx", desc := "(I)Z" } : Jvm.MethodName) ({ cls := "CoinKeeper$Layout", name := "readTx", desc := "(I)Z" } : Jvm.MethodName) ∈ gw := gw_of (List.mem_append_left _ (List.mem_of_getElem? (i := 7) rfl)) rfl
theorem gs_8 : Jvm.Cond.selects "CoinKeeper$Layout" ({ cls := "CoinKeeper$Layout", name := "readIn", desc := "()Z" } : Jvm.MethodName) ({ cls := "CoinKeeper$Layout", name := "readIn", desc := "()Z" } : Jvm.MethodName) ∈ gw := gw_of (List.mem_append_left _ (List.mem_of_getElem? (i := 8) rfl)) rfl
theorem gs_9 : Jvm.Cond.selects "CoinKeeper$Layout" ({ cls := "CoinKeeper$Layout", name := "readOut", desc := "()Z" } : Jvm.MethodName) ({ cls := "CoinKeeper$Layout", name := "readOut", desc := "()Z" } : Jvm.MethodName) ∈ gw := gw_of (List.mem_append_left _ (List.mem_of_getElem? (i := 9) rfl)) rfl
theorem gs_10 : Jvm.Cond.selects "CoinKeeper$Sha256" ({ cls := "CoinKeeper$Sha256", name := "mix", desc := "()V" } : Jvm.MethodName) ({ cls := "CoinKeeper$Sha256", name := "mix", desc := "()V" } : Jvm.MethodName) ∈ gw := gw_of (List.mem_append_left _ (List.mem_of_getElem? (i := 10) rfl)) rfl
theorem gs_11 : Jvm.Cond.selects "CoinKeeper$Sha256" ({ cls := "CoinKeeper$Sha256", name := "fillWithZeros", desc := "(I)V" } : Jvm.MethodName) ({ cls := "CoinKeeper$Sha256", name := "fillWithZeros", desc := "(I)V" } : Jvm.MethodName) ∈ gw := gw_of (List.mem_append_left _ (List.mem_of_getElem? (i := 11) rfl)) rfl
theorem gs_12 : Jvm.Cond.selects "CoinKeeper" ({ cls := "CoinKeeper", name := "blockOf", desc := "([BI)LCoinKeeper$Block;" } : Jvm.MethodName) ({ cls := "CoinKeeper", name := "blockOf", desc := "([BI)LCoinKeeper$Block;" } : Jvm.MethodName) ∈ gw := gw_of (List.mem_append_left _ (List.mem_of_getElem? (i := 12) rfl)) rfl
theorem gs_13 : Jvm.Cond.selects "CoinKeeper$Layout" ({ cls := "CoinKeeper$Layout", name := "amountsAreSound", desc := "(I)Z" } : Jvm.MethodName) ({ cls := "CoinKeeper$Layout", name := "amountsAreSound", desc := "(I)Z" } : Jvm.MethodName) ∈ gw := gw_of (List.mem_append_left _ (List.mem_of_getElem? (i := 13) rfl)) rfl
theorem gs_14 : Jvm.Cond.selects "CoinKeeper$Layout" ({ cls := "CoinKeeper$Layout", name := "inputsAreSound", desc := "(I)Z" } : Jvm.MethodName) ({ cls := "CoinKeeper$Layout", name := "inputsAreSound", desc := "(I)Z" } : Jvm.MethodName) ∈ gw := gw_of (List.mem_append_left _ (List.mem_of_getElem? (i := 14) rfl)) rfl
theorem gs_15 : Jvm.Cond.selects "CoinKeeper$Layout" ({ cls := "CoinKeeper$Layout", name := "isOfCoinbase", desc := "(I)Z" } : Jvm.MethodName) ({ cls := "CoinKeeper$Layout", name := "isOfCoinbase", desc := "(I)Z" } : Jvm.MethodName) ∈ gw := gw_of (List.mem_append_left _ (List.mem_of_getElem? (i := 15) rfl)) rfl
theorem gs_16 : Jvm.Cond.selects "CoinKeeper$Layout" ({ cls := "CoinKeeper$Layout", name := "isFinal", desc := "(IIJ)Z" } : Jvm.MethodName) ({ cls := "CoinKeeper$Layout", name := "isFinal", desc := "(IIJ)Z" } : Jvm.MethodName) ∈ gw := gw_of (List.mem_append_left _ (List.mem_of_getElem? (i := 16) rfl)) rfl
theorem gs_17 : Jvm.Cond.selects "CoinKeeper$Layout" ({ cls := "CoinKeeper$Layout", name := "beginsWith", desc := "(I)Z" } : Jvm.MethodName) ({ cls := "CoinKeeper$Layout", name := "beginsWith", desc := "(I)Z" } : Jvm.MethodName) ∈ gw := gw_of (List.mem_append_left _ (List.mem_of_getElem? (i := 17) rfl)) rfl
theorem gs_18 : Jvm.Cond.selects "CoinKeeper$Layout" ({ cls := "CoinKeeper$Layout", name := "scriptsAreSound", desc := "()Z" } : Jvm.MethodName) ({ cls := "CoinKeeper$Layout", name := "scriptsAreSound", desc := "()Z" } : Jvm.MethodName) ∈ gw := gw_of (List.mem_append_left _ (List.mem_of_getElem? (i := 18) rfl)) rfl
theorem gs_19 : Jvm.Cond.selects "CoinKeeper$Layout" ({ cls := "CoinKeeper$Layout", name := "sigsOf", desc := "(II)I" } : Jvm.MethodName) ({ cls := "CoinKeeper$Layout", name := "sigsOf", desc := "(II)I" } : Jvm.MethodName) ∈ gw := gw_of (List.mem_append_left _ (List.mem_of_getElem? (i := 19) rfl)) rfl
theorem gs_20 : Jvm.Cond.selects "CoinKeeper" ({ cls := "CoinKeeper", name := "take", desc := "(I)LCoinKeeper$Block;" } : Jvm.MethodName) ({ cls := "CoinKeeper", name := "take", desc := "(I)LCoinKeeper$Block;" } : Jvm.MethodName) ∈ gw := gw_of (List.mem_append_left _ (List.mem_of_getElem? (i := 20) rfl)) rfl
theorem gs_21 : Jvm.Cond.selects "java/util/ArrayList" ({ cls := "java/util/ArrayList", name := "fastRemove", desc := "([Ljava/lang/Object;I)V" } : Jvm.MethodName) ({ cls := "java/util/ArrayList", name := "fastRemove", desc := "([Ljava/lang/Object;I)V" } : Jvm.MethodName) ∈ gw := gw_of (List.mem_append_left _ (List.mem_of_getElem? (i := 21) rfl)) rfl
theorem gs_22 : Jvm.Cond.selects "CoinKeeper$Ledger" ({ cls := "CoinKeeper$Ledger", name := "change", desc := "(LCoinKeeper$Coin;)V" } : Jvm.MethodName) ({ cls := "CoinKeeper$Ledger", name := "change", desc := "(LCoinKeeper$Coin;)V" } : Jvm.MethodName) ∈ gw := gw_of (List.mem_append_left _ (List.mem_of_getElem? (i := 22) rfl)) rfl
theorem gs_23 : Jvm.Cond.selects "CoinKeeper" ({ cls := "CoinKeeper", name := "connect", desc := "(LCoinKeeper$Block;)I" } : Jvm.MethodName) ({ cls := "CoinKeeper", name := "connect", desc := "(LCoinKeeper$Block;)I" } : Jvm.MethodName) ∈ gw := gw_of (List.mem_append_left _ (List.mem_of_getElem? (i := 23) rfl)) rfl
theorem gs_24 : Jvm.Cond.selects "CoinKeeper" ({ cls := "CoinKeeper", name := "collect", desc := "(LCoinKeeper$Block;I)I" } : Jvm.MethodName) ({ cls := "CoinKeeper", name := "collect", desc := "(LCoinKeeper$Block;I)I" } : Jvm.MethodName) ∈ gw := gw_of (List.mem_append_left _ (List.mem_of_getElem? (i := 24) rfl)) rfl
theorem gs_25 : Jvm.Cond.selects "CoinKeeper" ({ cls := "CoinKeeper", name := "spentValue", desc := "(I)J" } : Jvm.MethodName) ({ cls := "CoinKeeper", name := "spentValue", desc := "(I)J" } : Jvm.MethodName) ∈ gw := gw_of (List.mem_append_left _ (List.mem_of_getElem? (i := 25) rfl)) rfl
theorem gs_26 : Jvm.Cond.selects "CoinKeeper" ({ cls := "CoinKeeper", name := "exchange", desc := "(LCoinKeeper$Block;I)V" } : Jvm.MethodName) ({ cls := "CoinKeeper", name := "exchange", desc := "(LCoinKeeper$Block;I)V" } : Jvm.MethodName) ∈ gw := gw_of (List.mem_append_left _ (List.mem_of_getElem? (i := 26) rfl)) rfl
theorem gs_27 : Jvm.Cond.selects "CoinKeeper" ({ cls := "CoinKeeper", name := "scriptsHold", desc := "()Z" } : Jvm.MethodName) ({ cls := "CoinKeeper", name := "scriptsHold", desc := "()Z" } : Jvm.MethodName) ∈ gw := gw_of (List.mem_append_left _ (List.mem_of_getElem? (i := 27) rfl)) rfl
theorem gs_28 : Jvm.Cond.selects "CoinKeeper$Machine" ({ cls := "CoinKeeper$Machine", name := "push", desc := "(I)V" } : Jvm.MethodName) ({ cls := "CoinKeeper$Machine", name := "push", desc := "(I)V" } : Jvm.MethodName) ∈ gw := gw_of (List.mem_append_left _ (List.mem_of_getElem? (i := 28) rfl)) rfl
theorem gs_29 : Jvm.Cond.selects "CoinKeeper$Machine" ({ cls := "CoinKeeper$Machine", name := "branch", desc := "(I)Z" } : Jvm.MethodName) ({ cls := "CoinKeeper$Machine", name := "branch", desc := "(I)Z" } : Jvm.MethodName) ∈ gw := gw_of (List.mem_append_left _ (List.mem_of_getElem? (i := 29) rfl)) rfl
theorem gs_30 : Jvm.Cond.selects "CoinKeeper$Machine" ({ cls := "CoinKeeper$Machine", name := "isTrue", desc := "(I)Z" } : Jvm.MethodName) ({ cls := "CoinKeeper$Machine", name := "isTrue", desc := "(I)Z" } : Jvm.MethodName) ∈ gw := gw_of (List.mem_append_left _ (List.mem_of_getElem? (i := 30) rfl)) rfl
theorem gs_31 : Jvm.Cond.selects "CoinKeeper$Machine" ({ cls := "CoinKeeper$Machine", name := "checkMany", desc := "(I)Z" } : Jvm.MethodName) ({ cls := "CoinKeeper$Machine", name := "checkMany", desc := "(I)Z" } : Jvm.MethodName) ∈ gw := gw_of (List.mem_append_left _ (List.mem_of_getElem? (i := 31) rfl)) rfl
theorem gs_32 : Jvm.Cond.selects "CoinKeeper$Machine" ({ cls := "CoinKeeper$Machine", name := "popLimited", desc := "(I)I" } : Jvm.MethodName) ({ cls := "CoinKeeper$Machine", name := "popLimited", desc := "(I)I" } : Jvm.MethodName) ∈ gw := gw_of (List.mem_append_left _ (List.mem_of_getElem? (i := 32) rfl)) rfl
theorem gs_33 : Jvm.Cond.selects "CoinKeeper$Machine" ({ cls := "CoinKeeper$Machine", name := "isNumber", desc := "(I)Z" } : Jvm.MethodName) ({ cls := "CoinKeeper$Machine", name := "isNumber", desc := "(I)Z" } : Jvm.MethodName) ∈ gw := gw_of (List.mem_append_left _ (List.mem_of_getElem? (i := 33) rfl)) rfl
theorem gs_34 : Jvm.Cond.selects "CoinKeeper$Machine" ({ cls := "CoinKeeper$Machine", name := "numberOf", desc := "(I)J" } : Jvm.MethodName) ({ cls := "CoinKeeper$Machine", name := "numberOf", desc := "(I)J" } : Jvm.MethodName) ∈ gw := gw_of (List.mem_append_left _ (List.mem_of_getElem? (i := 34) rfl)) rfl
theorem gs_35 : Jvm.Cond.selects "CoinKeeper$Machine" ({ cls := "CoinKeeper$Machine", name := "hasMessage", desc := "()Z" } : Jvm.MethodName) ({ cls := "CoinKeeper$Machine", name := "hasMessage", desc := "()Z" } : Jvm.MethodName) ∈ gw := gw_of (List.mem_append_left _ (List.mem_of_getElem? (i := 35) rfl)) rfl
theorem gs_36 : Jvm.Cond.selects "CoinKeeper$Machine" ({ cls := "CoinKeeper$Machine", name := "writeMessage", desc := "()V" } : Jvm.MethodName) ({ cls := "CoinKeeper$Machine", name := "writeMessage", desc := "()V" } : Jvm.MethodName) ∈ gw := gw_of (List.mem_append_left _ (List.mem_of_getElem? (i := 36) rfl)) rfl
theorem gs_37 : Jvm.Cond.selects "CoinKeeper$Curve" ({ cls := "CoinKeeper$Curve", name := "readCoordinate", desc := "([BI[J)Z" } : Jvm.MethodName) ({ cls := "CoinKeeper$Curve", name := "readCoordinate", desc := "([BI[J)Z" } : Jvm.MethodName) ∈ gw := gw_of (List.mem_append_left _ (List.mem_of_getElem? (i := 37) rfl)) rfl
theorem gs_38 : Jvm.Cond.selects "CoinKeeper$Curve" ({ cls := "CoinKeeper$Curve", name := "takeRoot", desc := "([J[J)V" } : Jvm.MethodName) ({ cls := "CoinKeeper$Curve", name := "takeRoot", desc := "([J[J)V" } : Jvm.MethodName) ∈ gw := gw_of (List.mem_append_left _ (List.mem_of_getElem? (i := 38) rfl)) rfl
theorem gs_39 : Jvm.Cond.selects "CoinKeeper$Signatures" ({ cls := "CoinKeeper$Signatures", name := "divide", desc := "([J[J)V" } : Jvm.MethodName) ({ cls := "CoinKeeper$Signatures", name := "divide", desc := "([J[J)V" } : Jvm.MethodName) ∈ gw := gw_of (List.mem_append_left _ (List.mem_of_getElem? (i := 39) rfl)) rfl
theorem gs_40 : Jvm.Cond.selects "CoinKeeper$Signatures" ({ cls := "CoinKeeper$Signatures", name := "addUp", desc := "()V" } : Jvm.MethodName) ({ cls := "CoinKeeper$Signatures", name := "addUp", desc := "()V" } : Jvm.MethodName) ∈ gw := gw_of (List.mem_append_left _ (List.mem_of_getElem? (i := 40) rfl)) rfl
theorem gs_41 : Jvm.Cond.selects "CoinKeeper$Signatures" ({ cls := "CoinKeeper$Signatures", name := "sumIsRight", desc := "()Z" } : Jvm.MethodName) ({ cls := "CoinKeeper$Signatures", name := "sumIsRight", desc := "()Z" } : Jvm.MethodName) ∈ gw := gw_of (List.mem_append_left _ (List.mem_of_getElem? (i := 41) rfl)) rfl
theorem gs_42 : Jvm.Cond.selects "CoinKeeper$Machine" ({ cls := "CoinKeeper$Machine", name := "verifyTop", desc := "()Z" } : Jvm.MethodName) ({ cls := "CoinKeeper$Machine", name := "verifyTop", desc := "()Z" } : Jvm.MethodName) ∈ gw := gw_of (List.mem_append_left _ (List.mem_of_getElem? (i := 42) rfl)) rfl
theorem gs_43 : Jvm.Cond.selects "CoinKeeper$Machine" ({ cls := "CoinKeeper$Machine", name := "checkOne", desc := "(I)Z" } : Jvm.MethodName) ({ cls := "CoinKeeper$Machine", name := "checkOne", desc := "(I)Z" } : Jvm.MethodName) ∈ gw := gw_of (List.mem_append_left _ (List.mem_of_getElem? (i := 43) rfl)) rfl
theorem gs_44 : Jvm.Cond.selects "CoinKeeper$Machine" ({ cls := "CoinKeeper$Machine", name := "perform", desc := "(I)Z" } : Jvm.MethodName) ({ cls := "CoinKeeper$Machine", name := "perform", desc := "(I)Z" } : Jvm.MethodName) ∈ gw := gw_of (List.mem_append_left _ (List.mem_of_getElem? (i := 44) rfl)) rfl
theorem gs_45 : Jvm.Cond.selects "CoinKeeper$Machine" ({ cls := "CoinKeeper$Machine", name := "pushSmall", desc := "(I)Z" } : Jvm.MethodName) ({ cls := "CoinKeeper$Machine", name := "pushSmall", desc := "(I)Z" } : Jvm.MethodName) ∈ gw := gw_of (List.mem_append_left _ (List.mem_of_getElem? (i := 45) rfl)) rfl
theorem gs_46 : Jvm.Cond.selects "CoinKeeper$Machine" ({ cls := "CoinKeeper$Machine", name := "toOther", desc := "()Z" } : Jvm.MethodName) ({ cls := "CoinKeeper$Machine", name := "toOther", desc := "()Z" } : Jvm.MethodName) ∈ gw := gw_of (List.mem_append_left _ (List.mem_of_getElem? (i := 46) rfl)) rfl
theorem gs_47 : Jvm.Cond.selects "CoinKeeper$Machine" ({ cls := "CoinKeeper$Machine", name := "fromOther", desc := "()Z" } : Jvm.MethodName) ({ cls := "CoinKeeper$Machine", name := "fromOther", desc := "()Z" } : Jvm.MethodName) ∈ gw := gw_of (List.mem_append_left _ (List.mem_of_getElem? (i := 47) rfl)) rfl
theorem gs_48 : Jvm.Cond.selects "CoinKeeper$Machine" ({ cls := "CoinKeeper$Machine", name := "arrange", desc := "(I)Z" } : Jvm.MethodName) ({ cls := "CoinKeeper$Machine", name := "arrange", desc := "(I)Z" } : Jvm.MethodName) ∈ gw := gw_of (List.mem_append_left _ (List.mem_of_getElem? (i := 48) rfl)) rfl
theorem gs_49 : Jvm.Cond.selects "CoinKeeper$Machine" ({ cls := "CoinKeeper$Machine", name := "pushNumber", desc := "(J)V" } : Jvm.MethodName) ({ cls := "CoinKeeper$Machine", name := "pushNumber", desc := "(J)V" } : Jvm.MethodName) ∈ gw := gw_of (List.mem_append_left _ (List.mem_of_getElem? (i := 49) rfl)) rfl
theorem gs_50 : Jvm.Cond.selects "CoinKeeper$Machine" ({ cls := "CoinKeeper$Machine", name := "fetch", desc := "(I)Z" } : Jvm.MethodName) ({ cls := "CoinKeeper$Machine", name := "fetch", desc := "(I)Z" } : Jvm.MethodName) ∈ gw := gw_of (List.mem_append_left _ (List.mem_of_getElem? (i := 50) rfl)) rfl
theorem gs_51 : Jvm.Cond.selects "CoinKeeper$Machine" ({ cls := "CoinKeeper$Machine", name := "compareTop", desc := "(I)Z" } : Jvm.MethodName) ({ cls := "CoinKeeper$Machine", name := "compareTop", desc := "(I)Z" } : Jvm.MethodName) ∈ gw := gw_of (List.mem_append_left _ (List.mem_of_getElem? (i := 51) rfl)) rfl
theorem gs_52 : Jvm.Cond.selects "CoinKeeper$Machine" ({ cls := "CoinKeeper$Machine", name := "changeNumber", desc := "(I)Z" } : Jvm.MethodName) ({ cls := "CoinKeeper$Machine", name := "changeNumber", desc := "(I)Z" } : Jvm.MethodName) ∈ gw := gw_of (List.mem_append_left _ (List.mem_of_getElem? (i := 52) rfl)) rfl
theorem gs_53 : Jvm.Cond.selects "CoinKeeper$Machine" ({ cls := "CoinKeeper$Machine", name := "joinNumbers", desc := "(I)Z" } : Jvm.MethodName) ({ cls := "CoinKeeper$Machine", name := "joinNumbers", desc := "(I)Z" } : Jvm.MethodName) ∈ gw := gw_of (List.mem_append_left _ (List.mem_of_getElem? (i := 53) rfl)) rfl
theorem gs_54 : Jvm.Cond.selects "CoinKeeper$Machine" ({ cls := "CoinKeeper$Machine", name := "within", desc := "()Z" } : Jvm.MethodName) ({ cls := "CoinKeeper$Machine", name := "within", desc := "()Z" } : Jvm.MethodName) ∈ gw := gw_of (List.mem_append_left _ (List.mem_of_getElem? (i := 54) rfl)) rfl
theorem gs_55 : Jvm.Cond.selects "CoinKeeper$Machine" ({ cls := "CoinKeeper$Machine", name := "digestTop", desc := "(I)Z" } : Jvm.MethodName) ({ cls := "CoinKeeper$Machine", name := "digestTop", desc := "(I)Z" } : Jvm.MethodName) ∈ gw := gw_of (List.mem_append_left _ (List.mem_of_getElem? (i := 55) rfl)) rfl
theorem gs_56 : Jvm.Cond.selects "CoinKeeper$Ripemd160" ({ cls := "CoinKeeper$Ripemd160", name := "spread", desc := "([BIII)V" } : Jvm.MethodName) ({ cls := "CoinKeeper$Ripemd160", name := "spread", desc := "([BIII)V" } : Jvm.MethodName) ∈ gw := gw_of (List.mem_append_left _ (List.mem_of_getElem? (i := 56) rfl)) rfl
theorem gs_57 : Jvm.Cond.selects "CoinKeeper$Ripemd160" ({ cls := "CoinKeeper$Ripemd160", name := "turn", desc := "([I[B[B[II)V" } : Jvm.MethodName) ({ cls := "CoinKeeper$Ripemd160", name := "turn", desc := "([I[B[B[II)V" } : Jvm.MethodName) ∈ gw := gw_of (List.mem_append_left _ (List.mem_of_getElem? (i := 57) rfl)) rfl
theorem gs_58 : Jvm.Cond.selects "CoinKeeper" ({ cls := "CoinKeeper", name := "spoil", desc := "(LCoinKeeper$Block;)V" } : Jvm.MethodName) ({ cls := "CoinKeeper", name := "spoil", desc := "(LCoinKeeper$Block;)V" } : Jvm.MethodName) ∈ gw := gw_of (List.mem_append_left _ (List.mem_of_getElem? (i := 58) rfl)) rfl
theorem gs_59 : Jvm.Cond.selects "CoinKeeper" ({ cls := "CoinKeeper", name := "comeBack", desc := "(LCoinKeeper$Block;)V" } : Jvm.MethodName) ({ cls := "CoinKeeper", name := "comeBack", desc := "(LCoinKeeper$Block;)V" } : Jvm.MethodName) ∈ gw := gw_of (List.mem_append_left _ (List.mem_of_getElem? (i := 59) rfl)) rfl
theorem gs_60 : Jvm.Cond.selects "CoinKeeper" ({ cls := "CoinKeeper", name := "badBlocks", desc := "()I" } : Jvm.MethodName) ({ cls := "CoinKeeper", name := "badBlocks", desc := "()I" } : Jvm.MethodName) ∈ gw := gw_of (List.mem_append_left _ (List.mem_of_getElem? (i := 60) rfl)) rfl
theorem gs_61 : Jvm.Cond.selects "CoinKeeperModel" ({ cls := "CoinKeeperModel", name := "target", desc := "(I)Z" } : Jvm.MethodName) ({ cls := "CoinKeeperModel", name := "target", desc := "(I)Z" } : Jvm.MethodName) ∈ gw := gw_of (List.mem_append_left _ (List.mem_of_getElem? (i := 61) rfl)) rfl
theorem gs_62 : Jvm.Cond.selects "CoinKeeperModel" ({ cls := "CoinKeeperModel", name := "isLow", desc := "()Z" } : Jvm.MethodName) ({ cls := "CoinKeeperModel", name := "isLow", desc := "()Z" } : Jvm.MethodName) ∈ gw := gw_of (List.mem_append_left _ (List.mem_of_getElem? (i := 62) rfl)) rfl
theorem gs_63 : Jvm.Cond.selects "CoinKeeperModel" ({ cls := "CoinKeeperModel", name := "worth", desc := "(I)V" } : Jvm.MethodName) ({ cls := "CoinKeeperModel", name := "worth", desc := "(I)V" } : Jvm.MethodName) ∈ gw := gw_of (List.mem_append_left _ (List.mem_of_getElem? (i := 63) rfl)) rfl
theorem gs_64 : Jvm.Cond.selects "CoinKeeperModel" ({ cls := "CoinKeeperModel", name := "divide", desc := "([I[I)V" } : Jvm.MethodName) ({ cls := "CoinKeeperModel", name := "divide", desc := "([I[I)V" } : Jvm.MethodName) ∈ gw := gw_of (List.mem_append_left _ (List.mem_of_getElem? (i := 64) rfl)) rfl
theorem gs_65 : Jvm.Cond.selects "CoinKeeperModel" ({ cls := "CoinKeeperModel", name := "clear", desc := "()V" } : Jvm.MethodName) ({ cls := "CoinKeeperModel", name := "clear", desc := "()V" } : Jvm.MethodName) ∈ gw := gw_of (List.mem_append_left _ (List.mem_of_getElem? (i := 65) rfl)) rfl
theorem gs_66 : Jvm.Cond.selects "CoinKeeperModel" ({ cls := "CoinKeeperModel", name := "four", desc := "(I)V" } : Jvm.MethodName) ({ cls := "CoinKeeperModel", name := "four", desc := "(I)V" } : Jvm.MethodName) ∈ gw := gw_of (List.mem_append_left _ (List.mem_of_getElem? (i := 66) rfl)) rfl
theorem gs_67 : Jvm.Cond.selects "CoinKeeperModel" ({ cls := "CoinKeeperModel", name := "take", desc := "(I)I" } : Jvm.MethodName) ({ cls := "CoinKeeperModel", name := "take", desc := "(I)I" } : Jvm.MethodName) ∈ gw := gw_of (List.mem_append_left _ (List.mem_of_getElem? (i := 67) rfl)) rfl
theorem gs_68 : Jvm.Cond.selects "CoinKeeperModel" ({ cls := "CoinKeeperModel", name := "get", desc := "(I)J" } : Jvm.MethodName) ({ cls := "CoinKeeperModel", name := "get", desc := "(I)J" } : Jvm.MethodName) ∈ gw := gw_of (List.mem_append_left _ (List.mem_of_getElem? (i := 68) rfl)) rfl
theorem gs_69 : Jvm.Cond.selects "CoinKeeperModel" ({ cls := "CoinKeeperModel", name := "skip", desc := "(J)V" } : Jvm.MethodName) ({ cls := "CoinKeeperModel", name := "skip", desc := "(J)V" } : Jvm.MethodName) ∈ gw := gw_of (List.mem_append_left _ (List.mem_of_getElem? (i := 69) rfl)) rfl
theorem gs_70 : Jvm.Cond.selects "CoinKeeperModel" ({ cls := "CoinKeeperModel", name := "count", desc := "()J" } : Jvm.MethodName) ({ cls := "CoinKeeperModel", name := "count", desc := "()J" } : Jvm.MethodName) ∈ gw := gw_of (List.mem_append_left _ (List.mem_of_getElem? (i := 70) rfl)) rfl
theorem gs_71 : Jvm.Cond.selects "CoinKeeperModel" ({ cls := "CoinKeeperModel", name := "transaction", desc := "()V" } : Jvm.MethodName) ({ cls := "CoinKeeperModel", name := "transaction", desc := "()V" } : Jvm.MethodName) ∈ gw := gw_of (List.mem_append_left _ (List.mem_of_getElem? (i := 71) rfl)) rfl
theorem gs_72 : Jvm.Cond.selects "CoinKeeperModel" ({ cls := "CoinKeeperModel", name := "twice", desc := "([BII)V" } : Jvm.MethodName) ({ cls := "CoinKeeperModel", name := "twice", desc := "([BII)V" } : Jvm.MethodName) ∈ gw := gw_of (List.mem_append_left _ (List.mem_of_getElem? (i := 72) rfl)) rfl
theorem gs_73 : Jvm.Cond.selects "CoinKeeperModel" ({ cls := "CoinKeeperModel", name := "sha", desc := "([BII)V" } : Jvm.MethodName) ({ cls := "CoinKeeperModel", name := "sha", desc := "([BII)V" } : Jvm.MethodName) ∈ gw := gw_of (List.mem_append_left _ (List.mem_of_getElem? (i := 73) rfl)) rfl
theorem gs_74 : Jvm.Cond.selects "CoinKeeperModel" ({ cls := "CoinKeeperModel", name := "find", desc := "([BI)I" } : Jvm.MethodName) ({ cls := "CoinKeeperModel", name := "find", desc := "([BI)I" } : Jvm.MethodName) ∈ gw := gw_of (List.mem_append_left _ (List.mem_of_getElem? (i := 74) rfl)) rfl
theorem gs_75 : Jvm.Cond.selects "CoinKeeperModel" ({ cls := "CoinKeeperModel", name := "wanted", desc := "(I)I" } : Jvm.MethodName) ({ cls := "CoinKeeperModel", name := "wanted", desc := "(I)I" } : Jvm.MethodName) ∈ gw := gw_of (List.mem_append_left _ (List.mem_of_getElem? (i := 75) rfl)) rfl
theorem gs_76 : Jvm.Cond.selects "CoinKeeperModel" ({ cls := "CoinKeeperModel", name := "medianOf", desc := "(I)I" } : Jvm.MethodName) ({ cls := "CoinKeeperModel", name := "medianOf", desc := "(I)I" } : Jvm.MethodName) ∈ gw := gw_of (List.mem_append_left _ (List.mem_of_getElem? (i := 76) rfl)) rfl
theorem gs_77 : Jvm.Cond.selects "CoinKeeperModel" ({ cls := "CoinKeeperModel", name := "isRoot", desc := "(III)Z" } : Jvm.MethodName) ({ cls := "CoinKeeperModel", name := "isRoot", desc := "(III)Z" } : Jvm.MethodName) ∈ gw := gw_of (List.mem_append_left _ (List.mem_of_getElem? (i := 77) rfl)) rfl
theorem gs_78 : Jvm.Cond.selects "CoinKeeperModel" ({ cls := "CoinKeeperModel", name := "isSound", desc := "(IIII)Z" } : Jvm.MethodName) ({ cls := "CoinKeeperModel", name := "isSound", desc := "(IIII)Z" } : Jvm.MethodName) ∈ gw := gw_of (List.mem_append_left _ (List.mem_of_getElem? (i := 78) rfl)) rfl
theorem gs_79 : Jvm.Cond.selects "CoinKeeperModel" ({ cls := "CoinKeeperModel", name := "sigsOf", desc := "(II)I" } : Jvm.MethodName) ({ cls := "CoinKeeperModel", name := "sigsOf", desc := "(II)I" } : Jvm.MethodName) ∈ gw := gw_of (List.mem_append_left _ (List.mem_of_getElem? (i := 79) rfl)) rfl
theorem gs_80 : Jvm.Cond.selects "CoinKeeperModel" ({ cls := "CoinKeeperModel", name := "isAlike", desc := "(II)Z" } : Jvm.MethodName) ({ cls := "CoinKeeperModel", name := "isAlike", desc := "(II)Z" } : Jvm.MethodName) ∈ gw := gw_of (List.mem_append_left _ (List.mem_of_getElem? (i := 80) rfl)) rfl
theorem gs_81 : Jvm.Cond.selects "CoinKeeperModel" ({ cls := "CoinKeeperModel", name := "isNull", desc := "(I)Z" } : Jvm.MethodName) ({ cls := "CoinKeeperModel", name := "isNull", desc := "(I)Z" } : Jvm.MethodName) ∈ gw := gw_of (List.mem_append_left _ (List.mem_of_getElem? (i := 81) rfl)) rfl
theorem gs_82 : Jvm.Cond.selects "CoinKeeperModel" ({ cls := "CoinKeeperModel", name := "isHeight", desc := "(II)Z" } : Jvm.MethodName) ({ cls := "CoinKeeperModel", name := "isHeight", desc := "(II)Z" } : Jvm.MethodName) ∈ gw := gw_of (List.mem_append_left _ (List.mem_of_getElem? (i := 82) rfl)) rfl
theorem gs_83 : Jvm.Cond.selects "CoinKeeperModel" ({ cls := "CoinKeeperModel", name := "pushNumber", desc := "(J)V" } : Jvm.MethodName) ({ cls := "CoinKeeperModel", name := "pushNumber", desc := "(J)V" } : Jvm.MethodName) ∈ gw := gw_of (List.mem_append_left _ (List.mem_of_getElem? (i := 83) rfl)) rfl
theorem gs_84 : Jvm.Cond.selects "CoinKeeperModel" ({ cls := "CoinKeeperModel", name := "compareWork", desc := "(II)I" } : Jvm.MethodName) ({ cls := "CoinKeeperModel", name := "compareWork", desc := "(II)I" } : Jvm.MethodName) ∈ gw := gw_of (List.mem_append_left _ (List.mem_of_getElem? (i := 84) rfl)) rfl
theorem gs_85 : Jvm.Cond.selects "CoinKeeperModel" ({ cls := "CoinKeeperModel", name := "branch", desc := "(I)I" } : Jvm.MethodName) ({ cls := "CoinKeeperModel", name := "branch", desc := "(I)I" } : Jvm.MethodName) ∈ gw := gw_of (List.mem_append_left _ (List.mem_of_getElem? (i := 85) rfl)) rfl
theorem gs_86 : Jvm.Cond.selects "CoinKeeperModel" ({ cls := "CoinKeeperModel", name := "valid", desc := "(I)I" } : Jvm.MethodName) ({ cls := "CoinKeeperModel", name := "valid", desc := "(I)I" } : Jvm.MethodName) ∈ gw := gw_of (List.mem_append_left _ (List.mem_of_getElem? (i := 86) rfl)) rfl
theorem gs_87 : Jvm.Cond.selects "CoinKeeperModel" ({ cls := "CoinKeeperModel", name := "come", desc := "(IIZ)V" } : Jvm.MethodName) ({ cls := "CoinKeeperModel", name := "come", desc := "(IIZ)V" } : Jvm.MethodName) ∈ gw := gw_of (List.mem_append_left _ (List.mem_of_getElem? (i := 87) rfl)) rfl
theorem gs_88 : Jvm.Cond.selects "CoinKeeperModel" ({ cls := "CoinKeeperModel", name := "entry", desc := "([BII)I" } : Jvm.MethodName) ({ cls := "CoinKeeperModel", name := "entry", desc := "([BII)I" } : Jvm.MethodName) ∈ gw := gw_of (List.mem_append_left _ (List.mem_of_getElem? (i := 88) rfl)) rfl
theorem gs_89 : Jvm.Cond.selects "CoinKeeperModel" ({ cls := "CoinKeeperModel", name := "placeOf", desc := "(II)I" } : Jvm.MethodName) ({ cls := "CoinKeeperModel", name := "placeOf", desc := "(II)I" } : Jvm.MethodName) ∈ gw := gw_of (List.mem_append_left _ (List.mem_of_getElem? (i := 89) rfl)) rfl
theorem gs_90 : Jvm.Cond.selects "CoinKeeperModel" ({ cls := "CoinKeeperModel", name := "isFine", desc := "(III)Z" } : Jvm.MethodName) ({ cls := "CoinKeeperModel", name := "isFine", desc := "(III)Z" } : Jvm.MethodName) ∈ gw := gw_of (List.mem_append_left _ (List.mem_of_getElem? (i := 90) rfl)) rfl
theorem gs_91 : Jvm.Cond.selects "CoinKeeperModel" ({ cls := "CoinKeeperModel", name := "isTrue", desc := "([BIIII)Z" } : Jvm.MethodName) ({ cls := "CoinKeeperModel", name := "isTrue", desc := "([BIIII)Z" } : Jvm.MethodName) ∈ gw := gw_of (List.mem_append_left _ (List.mem_of_getElem? (i := 91) rfl)) rfl
theorem gs_92 : Jvm.Cond.selects "CoinKeeperModel" ({ cls := "CoinKeeperModel", name := "run", desc := "([BII)Z" } : Jvm.MethodName) ({ cls := "CoinKeeperModel", name := "run", desc := "([BII)Z" } : Jvm.MethodName) ∈ gw := gw_of (List.mem_append_left _ (List.mem_of_getElem? (i := 92) rfl)) rfl
theorem gs_93 : Jvm.Cond.selects "CoinKeeperModel" ({ cls := "CoinKeeperModel", name := "push", desc := "([BII)V" } : Jvm.MethodName) ({ cls := "CoinKeeperModel", name := "push", desc := "([BII)V" } : Jvm.MethodName) ∈ gw := gw_of (List.mem_append_left _ (List.mem_of_getElem? (i := 93) rfl)) rfl
theorem gs_94 : Jvm.Cond.selects "CoinKeeperModel" ({ cls := "CoinKeeperModel", name := "isTrue", desc := "(I)Z" } : Jvm.MethodName) ({ cls := "CoinKeeperModel", name := "isTrue", desc := "(I)Z" } : Jvm.MethodName) ∈ gw := gw_of (List.mem_append_left _ (List.mem_of_getElem? (i := 94) rfl)) rfl
theorem gs_95 : Jvm.Cond.selects "CoinKeeperModel" ({ cls := "CoinKeeperModel", name := "isDone", desc := "(I)Z" } : Jvm.MethodName) ({ cls := "CoinKeeperModel", name := "isDone", desc := "(I)Z" } : Jvm.MethodName) ∈ gw := gw_of (List.mem_append_left _ (List.mem_of_getElem? (i := 95) rfl)) rfl
theorem gs_96 : Jvm.Cond.selects "CoinKeeperModel" ({ cls := "CoinKeeperModel", name := "isArithmetic", desc := "(I)Z" } : Jvm.MethodName) ({ cls := "CoinKeeperModel", name := "isArithmetic", desc := "(I)Z" } : Jvm.MethodName) ∈ gw := gw_of (List.mem_append_left _ (List.mem_of_getElem? (i := 96) rfl)) rfl
theorem gs_97 : Jvm.Cond.selects "CoinKeeperModel" ({ cls := "CoinKeeperModel", name := "has", desc := "(I)Z" } : Jvm.MethodName) ({ cls := "CoinKeeperModel", name := "has", desc := "(I)Z" } : Jvm.MethodName) ∈ gw := gw_of (List.mem_append_left _ (List.mem_of_getElem? (i := 97) rfl)) rfl
theorem gs_98 : Jvm.Cond.selects "CoinKeeperModel" ({ cls := "CoinKeeperModel", name := "isNumber", desc := "(I)Z" } : Jvm.MethodName) ({ cls := "CoinKeeperModel", name := "isNumber", desc := "(I)Z" } : Jvm.MethodName) ∈ gw := gw_of (List.mem_append_left _ (List.mem_of_getElem? (i := 98) rfl)) rfl
theorem gs_99 : Jvm.Cond.selects "CoinKeeperModel" ({ cls := "CoinKeeperModel", name := "numberAt", desc := "(I)J" } : Jvm.MethodName) ({ cls := "CoinKeeperModel", name := "numberAt", desc := "(I)J" } : Jvm.MethodName) ∈ gw := gw_of (List.mem_append_left _ (List.mem_of_getElem? (i := 99) rfl)) rfl
theorem gs_100 : Jvm.Cond.selects "CoinKeeperModel" ({ cls := "CoinKeeperModel", name := "move", desc := "(II)V" } : Jvm.MethodName) ({ cls := "CoinKeeperModel", name := "move", desc := "(II)V" } : Jvm.MethodName) ∈ gw := gw_of (List.mem_append_left _ (List.mem_of_getElem? (i := 100) rfl)) rfl
theorem gs_101 : Jvm.Cond.selects "CoinKeeperModel" ({ cls := "CoinKeeperModel", name := "again", desc := "(I)Z" } : Jvm.MethodName) ({ cls := "CoinKeeperModel", name := "again", desc := "(I)Z" } : Jvm.MethodName) ∈ gw := gw_of (List.mem_append_left _ (List.mem_of_getElem? (i := 101) rfl)) rfl
theorem gs_102 : Jvm.Cond.selects "CoinKeeperModel" ({ cls := "CoinKeeperModel", name := "takes", desc := "(IZ)Z" } : Jvm.MethodName) ({ cls := "CoinKeeperModel", name := "takes", desc := "(IZ)Z" } : Jvm.MethodName) ∈ gw := gw_of (List.mem_append_left _ (List.mem_of_getElem? (i := 102) rfl)) rfl
theorem gs_103 : Jvm.Cond.selects "CoinKeeperModel" ({ cls := "CoinKeeperModel", name := "isSame", desc := "(II)Z" } : Jvm.MethodName) ({ cls := "CoinKeeperModel", name := "isSame", desc := "(II)Z" } : Jvm.MethodName) ∈ gw := gw_of (List.mem_append_left _ (List.mem_of_getElem? (i := 103) rfl)) rfl
theorem gs_104 : Jvm.Cond.selects "CoinKeeperModel" ({ cls := "CoinKeeperModel", name := "pushTruth", desc := "(Z)V" } : Jvm.MethodName) ({ cls := "CoinKeeperModel", name := "pushTruth", desc := "(Z)V" } : Jvm.MethodName) ∈ gw := gw_of (List.mem_append_left _ (List.mem_of_getElem? (i := 104) rfl)) rfl
theorem gs_105 : Jvm.Cond.selects "CoinKeeperModel" ({ cls := "CoinKeeperModel", name := "hashed", desc := "(I)Z" } : Jvm.MethodName) ({ cls := "CoinKeeperModel", name := "hashed", desc := "(I)Z" } : Jvm.MethodName) ∈ gw := gw_of (List.mem_append_left _ (List.mem_of_getElem? (i := 105) rfl)) rfl
theorem gs_106 : Jvm.Cond.selects "CoinKeeperModel" ({ cls := "CoinKeeperModel", name := "ripemd", desc := "([BII)V" } : Jvm.MethodName) ({ cls := "CoinKeeperModel", name := "ripemd", desc := "([BII)V" } : Jvm.MethodName) ∈ gw := gw_of (List.mem_append_left _ (List.mem_of_getElem? (i := 106) rfl)) rfl
theorem gs_107 : Jvm.Cond.selects "CoinKeeperModel" ({ cls := "CoinKeeperModel", name := "isSig", desc := "(II)Z" } : Jvm.MethodName) ({ cls := "CoinKeeperModel", name := "isSig", desc := "(II)Z" } : Jvm.MethodName) ∈ gw := gw_of (List.mem_append_left _ (List.mem_of_getElem? (i := 107) rfl)) rfl
theorem gs_108 : Jvm.Cond.selects "CoinKeeperModel" ({ cls := "CoinKeeperModel", name := "message", desc := "()I" } : Jvm.MethodName) ({ cls := "CoinKeeperModel", name := "message", desc := "()I" } : Jvm.MethodName) ∈ gw := gw_of (List.mem_append_left _ (List.mem_of_getElem? (i := 108) rfl)) rfl
theorem gs_109 : Jvm.Cond.selects "CoinKeeperModel" ({ cls := "CoinKeeperModel", name := "count", desc := "(II)I" } : Jvm.MethodName) ({ cls := "CoinKeeperModel", name := "count", desc := "(II)I" } : Jvm.MethodName) ∈ gw := gw_of (List.mem_append_left _ (List.mem_of_getElem? (i := 109) rfl)) rfl
theorem gs_110 : Jvm.Cond.selects "CoinKeeperModel" ({ cls := "CoinKeeperModel", name := "isSigned", desc := "([BII[BII)Z" } : Jvm.MethodName) ({ cls := "CoinKeeperModel", name := "isSigned", desc := "([BII[BII)Z" } : Jvm.MethodName) ∈ gw := gw_of (List.mem_append_left _ (List.mem_of_getElem? (i := 110) rfl)) rfl
theorem gs_111 : Jvm.Cond.selects "CoinKeeperModel" ({ cls := "CoinKeeperModel", name := "isKey", desc := "([BII)Z" } : Jvm.MethodName) ({ cls := "CoinKeeperModel", name := "isKey", desc := "([BII)Z" } : Jvm.MethodName) ∈ gw := gw_of (List.mem_append_left _ (List.mem_of_getElem? (i := 111) rfl)) rfl
theorem gs_112 : Jvm.Cond.selects "CoinKeeperModel" ({ cls := "CoinKeeperModel", name := "times", desc := "([I[I[I)V" } : Jvm.MethodName) ({ cls := "CoinKeeperModel", name := "times", desc := "([I[I[I)V" } : Jvm.MethodName) ∈ gw := gw_of (List.mem_append_left _ (List.mem_of_getElem? (i := 112) rfl)) rfl
theorem gs_113 : Jvm.Cond.selects "CoinKeeperModel" ({ cls := "CoinKeeperModel", name := "multiply", desc := "([I[I)V" } : Jvm.MethodName) ({ cls := "CoinKeeperModel", name := "multiply", desc := "([I[I)V" } : Jvm.MethodName) ∈ gw := gw_of (List.mem_append_left _ (List.mem_of_getElem? (i := 113) rfl)) rfl
theorem gs_114 : Jvm.Cond.selects "CoinKeeperModel" ({ cls := "CoinKeeperModel", name := "isSignature", desc := "([BII)Z" } : Jvm.MethodName) ({ cls := "CoinKeeperModel", name := "isSignature", desc := "([BII)Z" } : Jvm.MethodName) ∈ gw := gw_of (List.mem_append_left _ (List.mem_of_getElem? (i := 114) rfl)) rfl
theorem gs_115 : Jvm.Cond.selects "CoinKeeperModel" ({ cls := "CoinKeeperModel", name := "isWhole", desc := "([BII)Z" } : Jvm.MethodName) ({ cls := "CoinKeeperModel", name := "isWhole", desc := "([BII)Z" } : Jvm.MethodName) ∈ gw := gw_of (List.mem_append_left _ (List.mem_of_getElem? (i := 115) rfl)) rfl
theorem gs_116 : Jvm.Cond.selects "CoinKeeperModel" ({ cls := "CoinKeeperModel", name := "isScalar", desc := "([I[BII)Z" } : Jvm.MethodName) ({ cls := "CoinKeeperModel", name := "isScalar", desc := "([I[BII)Z" } : Jvm.MethodName) ∈ gw := gw_of (List.mem_append_left _ (List.mem_of_getElem? (i := 116) rfl)) rfl
theorem gs_117 : Jvm.Cond.selects "CoinKeeperModel" ({ cls := "CoinKeeperModel", name := "inverse", desc := "([I[I[I)V" } : Jvm.MethodName) ({ cls := "CoinKeeperModel", name := "inverse", desc := "([I[I[I)V" } : Jvm.MethodName) ∈ gw := gw_of (List.mem_append_left _ (List.mem_of_getElem? (i := 117) rfl)) rfl
theorem gs_118 : Jvm.Cond.selects "CoinKeeperModel" ({ cls := "CoinKeeperModel", name := "timesN", desc := "([I[I[I)V" } : Jvm.MethodName) ({ cls := "CoinKeeperModel", name := "timesN", desc := "([I[I[I)V" } : Jvm.MethodName) ∈ gw := gw_of (List.mem_append_left _ (List.mem_of_getElem? (i := 118) rfl)) rfl
theorem gs_119 : Jvm.Cond.selects "CoinKeeperModel" ({ cls := "CoinKeeperModel", name := "join", desc := "([I[IZ)V" } : Jvm.MethodName) ({ cls := "CoinKeeperModel", name := "join", desc := "([I[IZ)V" } : Jvm.MethodName) ∈ gw := gw_of (List.mem_append_left _ (List.mem_of_getElem? (i := 119) rfl)) rfl
theorem gs_120 : Jvm.Cond.selects "CoinKeeperModel" ({ cls := "CoinKeeperModel", name := "other", desc := "([I[I)V" } : Jvm.MethodName) ({ cls := "CoinKeeperModel", name := "other", desc := "([I[I)V" } : Jvm.MethodName) ∈ gw := gw_of (List.mem_append_left _ (List.mem_of_getElem? (i := 120) rfl)) rfl
theorem gs_121 : Jvm.Cond.selects "CoinKeeperModel" ({ cls := "CoinKeeperModel", name := "many", desc := "(Z)Z" } : Jvm.MethodName) ({ cls := "CoinKeeperModel", name := "many", desc := "(Z)Z" } : Jvm.MethodName) ∈ gw := gw_of (List.mem_append_left _ (List.mem_of_getElem? (i := 121) rfl)) rfl
