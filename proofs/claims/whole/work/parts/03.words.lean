/-! The words of the tables by name (by program). -/
def TT : List Cond := lw_tbl.filter goodWord
theorem tt_mem {w : Cond} (h : w ∈ lw_tbl) (hg : goodWord w = true) : w ∈ TT := List.mem_filter.mpr ⟨h, hg⟩
theorem tt_good {w : Cond} (h : w ∈ TT) : goodWord w = true := (List.mem_filter.mp h).2
theorem tt_lw {w : Cond} (h : w ∈ TT) : w ∈ lw_tbl := (List.mem_filter.mp h).1
theorem tt_in (c1 : Cond) {c2 : Cond} (h2 : c2 ∈ TT) : GoodIn (c1 :: TT) (c2 :: TT) := fun w hw => by
  have h : w ∈ TT := by
    rcases List.mem_cons.mp hw with rfl | h
    · exact h2
    · exact h
  exact ⟨List.mem_cons_of_mem _ h, good_of_word (tt_good h)⟩
theorem tb1 {w : Cond} (h : w ∈ tables_1_1) : w ∈ lw_tbl := List.mem_append_right _ (show w ∈ tables_1 from List.mem_append_left _ h)
theorem tb2 {w : Cond} (h : w ∈ tables_1_2) : w ∈ lw_tbl := List.mem_append_right _ (show w ∈ tables_1 from List.mem_append_right _ (List.mem_append_left _ h))
theorem tb3 {w : Cond} (h : w ∈ tables_1_3) : w ∈ lw_tbl := List.mem_append_right _ (show w ∈ tables_1 from List.mem_append_right _ (List.mem_append_right _ (List.mem_append_left _ h)))
theorem tb4 {w : Cond} (h : w ∈ tables_1_4) : w ∈ lw_tbl := List.mem_append_right _ (show w ∈ tables_1 from List.mem_append_right _ (List.mem_append_right _ (List.mem_append_right _ (h))))
theorem w0 : (Cond.initialized "LockHouseLaw") ∈ TT := tt_mem (tb1 (List.mem_of_getElem? (i := 0) rfl)) rfl
theorem w1 : (Cond.initialized "LockHouse") ∈ TT := tt_mem (tb1 (List.mem_of_getElem? (i := 1) rfl)) rfl
theorem w2 : (Cond.initialized "java/util/AbstractCollection") ∈ TT := tt_mem (tb1 (List.mem_of_getElem? (i := 2) rfl)) rfl
theorem w3 : (Cond.initialized "java/util/AbstractList") ∈ TT := tt_mem (tb1 (List.mem_of_getElem? (i := 3) rfl)) rfl
theorem w4 : (Cond.initialized "java/util/ArrayList") ∈ TT := tt_mem (tb1 (List.mem_of_getElem? (i := 4) rfl)) rfl
theorem w5 : (Cond.initialized "LockHouse$EntryList") ∈ TT := tt_mem (tb1 (List.mem_of_getElem? (i := 5) rfl)) rfl
theorem w6 : (Cond.initialized "LockHouse$Door") ∈ TT := tt_mem (tb1 (List.mem_of_getElem? (i := 6) rfl)) rfl
theorem w7 : (Cond.initialized "java/util/Arrays") ∈ TT := tt_mem (tb1 (List.mem_of_getElem? (i := 7) rfl)) rfl
theorem w8 : (Cond.initialized "LockHouseModel") ∈ TT := tt_mem (tb1 (List.mem_of_getElem? (i := 8) rfl)) rfl
theorem w9 : (Cond.initialized "java/lang/Throwable") ∈ TT := tt_mem (tb1 (List.mem_of_getElem? (i := 9) rfl)) rfl
theorem w10 : (Cond.initialized "java/lang/Exception") ∈ TT := tt_mem (tb1 (List.mem_of_getElem? (i := 10) rfl)) rfl
theorem w11 : (Cond.initialized "java/lang/RuntimeException") ∈ TT := tt_mem (tb1 (List.mem_of_getElem? (i := 11) rfl)) rfl
theorem w12 : (Cond.initialized "java/lang/IllegalStateException") ∈ TT := tt_mem (tb1 (List.mem_of_getElem? (i := 12) rfl)) rfl
theorem w13 : (Cond.initialized "LockHouse$Card") ∈ TT := tt_mem (tb1 (List.mem_of_getElem? (i := 13) rfl)) rfl
theorem w14 : (Cond.initialized "LockHouse$Image") ∈ TT := tt_mem (tb1 (List.mem_of_getElem? (i := 14) rfl)) rfl
theorem w15 : (Cond.initialized "jdk/internal/util/ArraysSupport") ∈ TT := tt_mem (tb1 (List.mem_of_getElem? (i := 15) rfl)) rfl
theorem w16 : (Cond.initialized "java/lang/Math") ∈ TT := tt_mem (tb1 (List.mem_of_getElem? (i := 16) rfl)) rfl
theorem w17 : (Cond.initialized "java/lang/System") ∈ TT := tt_mem (tb1 (List.mem_of_getElem? (i := 17) rfl)) rfl
theorem w18 : (Cond.initialized "java/lang/IndexOutOfBoundsException") ∈ TT := tt_mem (tb1 (List.mem_of_getElem? (i := 18) rfl)) rfl
theorem w19 : (Cond.initialized "java/util/Objects") ∈ TT := tt_mem (tb1 (List.mem_of_getElem? (i := 19) rfl)) rfl
theorem w20 : (Cond.initialized "jdk/internal/util/Preconditions") ∈ TT := tt_mem (tb1 (List.mem_of_getElem? (i := 20) rfl)) rfl
theorem w21 : (Cond.initialized "LockHouse$Entry") ∈ TT := tt_mem (tb1 (List.mem_of_getElem? (i := 21) rfl)) rfl
theorem w22 : (Cond.initialized "java/lang/IllegalArgumentException") ∈ TT := tt_mem (tb1 (List.mem_of_getElem? (i := 22) rfl)) rfl
theorem w23 : (Cond.classLink "LockHouseLaw" (8 : Nat) "LockHouse") ∈ TT := tt_mem (tb1 (List.mem_of_getElem? (i := 23) rfl)) rfl
theorem w24 : (Cond.instantiable "LockHouse" (6 : Nat)) ∈ TT := tt_mem (tb1 (List.mem_of_getElem? (i := 24) rfl)) rfl
theorem w25 : (Cond.methodLink "LockHouseLaw" (74 : Nat) ({ cls := "LockHouse", name := "<init>", desc := "()V" } : MethodName)) ∈ TT := tt_mem (tb1 (List.mem_of_getElem? (i := 25) rfl)) rfl
theorem w26 : (Cond.instanceMethod ({ cls := "LockHouse", name := "<init>", desc := "()V" } : MethodName)) ∈ TT := tt_mem (tb1 (List.mem_of_getElem? (i := 26) rfl)) rfl
theorem w27 : (Cond.code ({ cls := "LockHouse", name := "<init>", desc := "()V" } : MethodName) prog_1_method_1_code (2 : Nat) (Option.none : Option FieldType)) ∈ TT := tt_mem (tb1 (List.mem_of_getElem? (i := 27) rfl)) rfl
theorem w28 : (Cond.methodLink "LockHouse" (1 : Nat) ({ cls := "java/lang/Object", name := "<init>", desc := "()V" } : MethodName)) ∈ TT := tt_mem (tb1 (List.mem_of_getElem? (i := 28) rfl)) rfl
theorem w29 : (Cond.instanceMethod ({ cls := "java/lang/Object", name := "<init>", desc := "()V" } : MethodName)) ∈ TT := tt_mem (tb1 (List.mem_of_getElem? (i := 29) rfl)) rfl
theorem w30 : (Cond.code ({ cls := "java/lang/Object", name := "<init>", desc := "()V" } : MethodName) object_method_1_code (1 : Nat) (Option.none : Option FieldType)) ∈ TT := tt_mem (tb1 (List.mem_of_getElem? (i := 30) rfl)) rfl
theorem w31 : (Cond.classLink "LockHouse" (7 : Nat) "java/util/ArrayList") ∈ TT := tt_mem (tb1 (List.mem_of_getElem? (i := 31) rfl)) rfl
theorem w32 : (Cond.instantiable "java/util/ArrayList" (3 : Nat)) ∈ TT := tt_mem (tb1 (List.mem_of_getElem? (i := 32) rfl)) rfl
theorem w33 : (Cond.methodLink "LockHouse" (9 : Nat) ({ cls := "java/util/ArrayList", name := "<init>", desc := "()V" } : MethodName)) ∈ TT := tt_mem (tb1 (List.mem_of_getElem? (i := 33) rfl)) rfl
theorem w34 : (Cond.instanceMethod ({ cls := "java/util/ArrayList", name := "<init>", desc := "()V" } : MethodName)) ∈ TT := tt_mem (tb1 (List.mem_of_getElem? (i := 34) rfl)) rfl
theorem w35 : (Cond.code ({ cls := "java/util/ArrayList", name := "<init>", desc := "()V" } : MethodName) prog_23_method_2_code (1 : Nat) (Option.none : Option FieldType)) ∈ TT := tt_mem (tb1 (List.mem_of_getElem? (i := 35) rfl)) rfl
theorem w36 : (Cond.methodLink "java/util/ArrayList" (1 : Nat) ({ cls := "java/util/AbstractList", name := "<init>", desc := "()V" } : MethodName)) ∈ TT := tt_mem (tb1 (List.mem_of_getElem? (i := 36) rfl)) rfl
theorem w37 : (Cond.instanceMethod ({ cls := "java/util/AbstractList", name := "<init>", desc := "()V" } : MethodName)) ∈ TT := tt_mem (tb1 (List.mem_of_getElem? (i := 37) rfl)) rfl
theorem w38 : (Cond.code ({ cls := "java/util/AbstractList", name := "<init>", desc := "()V" } : MethodName) prog_22_method_1_code (1 : Nat) (Option.none : Option FieldType)) ∈ TT := tt_mem (tb1 (List.mem_of_getElem? (i := 38) rfl)) rfl
theorem w39 : (Cond.methodLink "java/util/AbstractList" (1 : Nat) ({ cls := "java/util/AbstractCollection", name := "<init>", desc := "()V" } : MethodName)) ∈ TT := tt_mem (tb1 (List.mem_of_getElem? (i := 39) rfl)) rfl
theorem w40 : (Cond.instanceMethod ({ cls := "java/util/AbstractCollection", name := "<init>", desc := "()V" } : MethodName)) ∈ TT := tt_mem (tb1 (List.mem_of_getElem? (i := 40) rfl)) rfl
theorem w41 : (Cond.code ({ cls := "java/util/AbstractCollection", name := "<init>", desc := "()V" } : MethodName) prog_21_method_1_code (1 : Nat) (Option.none : Option FieldType)) ∈ TT := tt_mem (tb1 (List.mem_of_getElem? (i := 41) rfl)) rfl
theorem w42 : (Cond.methodLink "java/util/AbstractCollection" (1 : Nat) ({ cls := "java/lang/Object", name := "<init>", desc := "()V" } : MethodName)) ∈ TT := tt_mem (tb1 (List.mem_of_getElem? (i := 42) rfl)) rfl
theorem w43 : (Cond.fieldLink "java/util/ArrayList" (39 : Nat) "java/util/ArrayList" "DEFAULTCAPACITY_EMPTY_ELEMENTDATA" "[Ljava/lang/Object;") ∈ TT := tt_mem (tb1 (List.mem_of_getElem? (i := 43) rfl)) rfl
theorem u44 : (Cond.laysStatic "java/util/ArrayList" "DEFAULTCAPACITY_EMPTY_ELEMENTDATA" "[Ljava/lang/Object;") ∈ lw_tbl := tb1 (List.mem_of_getElem? (i := 44) rfl)
theorem w45 : (Cond.fieldLink "java/util/ArrayList" (9 : Nat) "java/util/ArrayList" "elementData" "[Ljava/lang/Object;") ∈ TT := tt_mem (tb1 (List.mem_of_getElem? (i := 45) rfl)) rfl
theorem w46 : (Cond.fieldLink "java/util/ArrayList" (48 : Nat) "java/util/ArrayList" "size" "I") ∈ TT := tt_mem (tb1 (List.mem_of_getElem? (i := 46) rfl)) rfl
theorem w47 : (Cond.fieldLink "java/util/AbstractList" (7 : Nat) "java/util/AbstractList" "modCount" "I") ∈ TT := tt_mem (tb1 (List.mem_of_getElem? (i := 47) rfl)) rfl
theorem w48 : (Cond.fieldLink "java/util/ArrayList" (63 : Nat) "java/util/ArrayList" "modCount" "I") ∈ TT := tt_mem (tb1 (List.mem_of_getElem? (i := 48) rfl)) rfl
theorem w49 : (Cond.sameField "java/util/ArrayList" "java/util/AbstractList" "modCount" "I") ∈ TT := tt_mem (tb1 (List.mem_of_getElem? (i := 49) rfl)) rfl
theorem w50 : (Cond.lays "java/util/ArrayList" "java/util/ArrayList" "elementData" "[Ljava/lang/Object;") ∈ TT := tt_mem (tb1 (List.mem_of_getElem? (i := 50) rfl)) rfl
theorem w51 : (Cond.soleField "java/util/ArrayList" "elementData") ∈ TT := tt_mem (tb1 (List.mem_of_getElem? (i := 51) rfl)) rfl
theorem w52 : (Cond.lays "java/util/ArrayList" "java/util/ArrayList" "size" "I") ∈ TT := tt_mem (tb1 (List.mem_of_getElem? (i := 52) rfl)) rfl
theorem w53 : (Cond.soleField "java/util/ArrayList" "size") ∈ TT := tt_mem (tb1 (List.mem_of_getElem? (i := 53) rfl)) rfl
theorem w54 : (Cond.lays "java/util/ArrayList" "java/util/AbstractList" "modCount" "I") ∈ TT := tt_mem (tb1 (List.mem_of_getElem? (i := 54) rfl)) rfl
theorem w55 : (Cond.soleField "java/util/AbstractList" "modCount") ∈ TT := tt_mem (tb1 (List.mem_of_getElem? (i := 55) rfl)) rfl
theorem w56 : (Cond.superclass "java/util/ArrayList" "java/util/AbstractList") ∈ TT := tt_mem (tb1 (List.mem_of_getElem? (i := 56) rfl)) rfl
theorem w57 : (Cond.classLink "LockHouse" (16 : Nat) "LockHouse$EntryList") ∈ TT := tt_mem (tb1 (List.mem_of_getElem? (i := 57) rfl)) rfl
theorem w58 : (Cond.instantiable "LockHouse$EntryList" (1 : Nat)) ∈ TT := tt_mem (tb1 (List.mem_of_getElem? (i := 58) rfl)) rfl
theorem u59 : (Cond.methodLinkNest "LockHouse" (18 : Nat) ({ cls := "LockHouse$EntryList", name := "<init>", desc := "()V" } : MethodName) "LockHouse") ∈ lw_tbl := tb1 (List.mem_of_getElem? (i := 59) rfl)
theorem w60 : (Cond.instanceMethod ({ cls := "LockHouse$EntryList", name := "<init>", desc := "()V" } : MethodName)) ∈ TT := tt_mem (tb1 (List.mem_of_getElem? (i := 60) rfl)) rfl
theorem w61 : (Cond.code ({ cls := "LockHouse$EntryList", name := "<init>", desc := "()V" } : MethodName) prog_5_method_1_code (1 : Nat) (Option.none : Option FieldType)) ∈ TT := tt_mem (tb1 (List.mem_of_getElem? (i := 61) rfl)) rfl
theorem w62 : (Cond.methodLink "LockHouse$EntryList" (3 : Nat) ({ cls := "java/lang/Object", name := "<init>", desc := "()V" } : MethodName)) ∈ TT := tt_mem (tb1 (List.mem_of_getElem? (i := 62) rfl)) rfl
theorem w63 : (Cond.classLink "LockHouse$EntryList" (9 : Nat) "java/util/ArrayList") ∈ TT := tt_mem (tb1 (List.mem_of_getElem? (i := 63) rfl)) rfl
theorem w64 : (Cond.methodLink "LockHouse$EntryList" (11 : Nat) ({ cls := "java/util/ArrayList", name := "<init>", desc := "()V" } : MethodName)) ∈ TT := tt_mem (tb1 (List.mem_of_getElem? (i := 64) rfl)) rfl
theorem w65 : (Cond.fieldLink "LockHouse$EntryList" (12 : Nat) "LockHouse$EntryList" "inOrder" "Ljava/util/ArrayList;") ∈ TT := tt_mem (tb1 (List.mem_of_getElem? (i := 65) rfl)) rfl
theorem w66 : (Cond.laysFinal "LockHouse$EntryList" "LockHouse$EntryList" "inOrder" "Ljava/util/ArrayList;") ∈ TT := tt_mem (tb1 (List.mem_of_getElem? (i := 66) rfl)) rfl
theorem w67 : (Cond.soleField "LockHouse$EntryList" "inOrder") ∈ TT := tt_mem (tb1 (List.mem_of_getElem? (i := 67) rfl)) rfl
theorem w68 : (Cond.superclass "LockHouse$EntryList" "java/lang/Object") ∈ TT := tt_mem (tb1 (List.mem_of_getElem? (i := 68) rfl)) rfl
theorem w69 : (Cond.classLink "LockHouse" (23 : Nat) "LockHouse$Door") ∈ TT := tt_mem (tb1 (List.mem_of_getElem? (i := 69) rfl)) rfl
theorem u70 : (Cond.arrayOver (FieldType.object "LockHouse$Door")) ∈ lw_tbl := tb1 (List.mem_of_getElem? (i := 70) rfl)
theorem w71 : (Cond.instantiable "LockHouse$Door" (5 : Nat)) ∈ TT := tt_mem (tb1 (List.mem_of_getElem? (i := 71) rfl)) rfl
theorem w72 : (Cond.methodLink "LockHouse" (39 : Nat) ({ cls := "LockHouse$Door", name := "<init>", desc := "(I)V" } : MethodName)) ∈ TT := tt_mem (tb1 (List.mem_of_getElem? (i := 72) rfl)) rfl
theorem w73 : (Cond.instanceMethod ({ cls := "LockHouse$Door", name := "<init>", desc := "(I)V" } : MethodName)) ∈ TT := tt_mem (tb1 (List.mem_of_getElem? (i := 73) rfl)) rfl
theorem w74 : (Cond.code ({ cls := "LockHouse$Door", name := "<init>", desc := "(I)V" } : MethodName) prog_3_method_1_code (2 : Nat) (Option.none : Option FieldType)) ∈ TT := tt_mem (tb1 (List.mem_of_getElem? (i := 74) rfl)) rfl
theorem w75 : (Cond.methodLink "LockHouse$Door" (3 : Nat) ({ cls := "java/lang/Object", name := "<init>", desc := "()V" } : MethodName)) ∈ TT := tt_mem (tb1 (List.mem_of_getElem? (i := 75) rfl)) rfl
theorem w76 : (Cond.fieldLink "LockHouse$Door" (25 : Nat) "LockHouse$Door" "number" "I") ∈ TT := tt_mem (tb1 (List.mem_of_getElem? (i := 76) rfl)) rfl
theorem w77 : (Cond.fieldLink "LockHouse$Door" (9 : Nat) "LockHouse$Door" "zone" "I") ∈ TT := tt_mem (tb1 (List.mem_of_getElem? (i := 77) rfl)) rfl
theorem u78 : (Cond.fieldLinkNest "LockHouse" (110 : Nat) "LockHouse$Door" "zone" "I" "LockHouse") ∈ lw_tbl := tb1 (List.mem_of_getElem? (i := 78) rfl)
theorem w79 : (Cond.fieldLink "LockHouse$Door" (15 : Nat) "LockHouse$Door" "heard" "I") ∈ TT := tt_mem (tb1 (List.mem_of_getElem? (i := 79) rfl)) rfl
theorem u80 : (Cond.fieldLinkNest "LockHouse" (160 : Nat) "LockHouse$Door" "heard" "I" "LockHouse") ∈ lw_tbl := tb1 (List.mem_of_getElem? (i := 80) rfl)
theorem w81 : (Cond.fieldLink "LockHouse$Door" (18 : Nat) "LockHouse$Door" "greatest" "I") ∈ TT := tt_mem (tb1 (List.mem_of_getElem? (i := 81) rfl)) rfl
theorem u82 : (Cond.fieldLinkNest "LockHouse" (157 : Nat) "LockHouse$Door" "greatest" "I" "LockHouse") ∈ lw_tbl := tb1 (List.mem_of_getElem? (i := 82) rfl)
theorem w83 : (Cond.fieldLink "LockHouse$Door" (21 : Nat) "LockHouse$Door" "used" "Z") ∈ TT := tt_mem (tb1 (List.mem_of_getElem? (i := 83) rfl)) rfl
theorem u84 : (Cond.fieldLinkNest "LockHouse" (104 : Nat) "LockHouse$Door" "used" "Z" "LockHouse") ∈ lw_tbl := tb1 (List.mem_of_getElem? (i := 84) rfl)
theorem w85 : (Cond.laysFinal "LockHouse$Door" "LockHouse$Door" "number" "I") ∈ TT := tt_mem (tb1 (List.mem_of_getElem? (i := 85) rfl)) rfl
theorem w86 : (Cond.soleField "LockHouse$Door" "number") ∈ TT := tt_mem (tb1 (List.mem_of_getElem? (i := 86) rfl)) rfl
theorem w87 : (Cond.lays "LockHouse$Door" "LockHouse$Door" "zone" "I") ∈ TT := tt_mem (tb1 (List.mem_of_getElem? (i := 87) rfl)) rfl
theorem w88 : (Cond.soleField "LockHouse$Door" "zone") ∈ TT := tt_mem (tb1 (List.mem_of_getElem? (i := 88) rfl)) rfl
theorem w89 : (Cond.lays "LockHouse$Door" "LockHouse$Door" "heard" "I") ∈ TT := tt_mem (tb1 (List.mem_of_getElem? (i := 89) rfl)) rfl
theorem w90 : (Cond.soleField "LockHouse$Door" "heard") ∈ TT := tt_mem (tb1 (List.mem_of_getElem? (i := 90) rfl)) rfl
theorem w91 : (Cond.lays "LockHouse$Door" "LockHouse$Door" "greatest" "I") ∈ TT := tt_mem (tb1 (List.mem_of_getElem? (i := 91) rfl)) rfl
theorem w92 : (Cond.soleField "LockHouse$Door" "greatest") ∈ TT := tt_mem (tb1 (List.mem_of_getElem? (i := 92) rfl)) rfl
theorem w93 : (Cond.lays "LockHouse$Door" "LockHouse$Door" "used" "Z") ∈ TT := tt_mem (tb1 (List.mem_of_getElem? (i := 93) rfl)) rfl
theorem w94 : (Cond.soleField "LockHouse$Door" "used") ∈ TT := tt_mem (tb1 (List.mem_of_getElem? (i := 94) rfl)) rfl
theorem w95 : (Cond.superclass "LockHouse$Door" "java/lang/Object") ∈ TT := tt_mem (tb1 (List.mem_of_getElem? (i := 95) rfl)) rfl
theorem w96 : (Cond.arrayClass FieldType.int) ∈ TT := tt_mem (tb1 (List.mem_of_getElem? (i := 96) rfl)) rfl
theorem w97 : (Cond.methodLink "LockHouse" (42 : Nat) ({ cls := "java/util/Arrays", name := "fill", desc := "([II)V" } : MethodName)) ∈ TT := tt_mem (tb1 (List.mem_of_getElem? (i := 97) rfl)) rfl
theorem w98 : (Cond.static ({ cls := "java/util/Arrays", name := "fill", desc := "([II)V" } : MethodName)) ∈ TT := tt_mem (tb1 (List.mem_of_getElem? (i := 98) rfl)) rfl
theorem w99 : (Cond.code ({ cls := "java/util/Arrays", name := "fill", desc := "([II)V" } : MethodName) prog_24_method_103_code (4 : Nat) (Option.none : Option FieldType)) ∈ TT := tt_mem (tb1 (List.mem_of_getElem? (i := 99) rfl)) rfl
theorem w100 : (Cond.fieldLink "LockHouse" (10 : Nat) "LockHouse" "issued" "Ljava/util/ArrayList;") ∈ TT := tt_mem (tb1 (List.mem_of_getElem? (i := 100) rfl)) rfl
theorem w101 : (Cond.fieldLink "LockHouse" (19 : Nat) "LockHouse" "list" "LLockHouse$EntryList;") ∈ TT := tt_mem (tb1 (List.mem_of_getElem? (i := 101) rfl)) rfl
theorem w102 : (Cond.fieldLink "LockHouse" (25 : Nat) "LockHouse" "doors" "[LLockHouse$Door;") ∈ TT := tt_mem (tb1 (List.mem_of_getElem? (i := 102) rfl)) rfl
theorem w103 : (Cond.fieldLink "LockHouse" (29 : Nat) "LockHouse" "visitCard" "[I") ∈ TT := tt_mem (tb1 (List.mem_of_getElem? (i := 103) rfl)) rfl
theorem w104 : (Cond.fieldLink "LockHouse" (33 : Nat) "LockHouse" "visitDoor" "[I") ∈ TT := tt_mem (tb1 (List.mem_of_getElem? (i := 104) rfl)) rfl
theorem w105 : (Cond.fieldLink "LockHouse" (36 : Nat) "LockHouse" "visitDay" "[I") ∈ TT := tt_mem (tb1 (List.mem_of_getElem? (i := 105) rfl)) rfl
theorem w106 : (Cond.laysFinal "LockHouse" "LockHouse" "issued" "Ljava/util/ArrayList;") ∈ TT := tt_mem (tb1 (List.mem_of_getElem? (i := 106) rfl)) rfl
theorem w107 : (Cond.soleField "LockHouse" "issued") ∈ TT := tt_mem (tb1 (List.mem_of_getElem? (i := 107) rfl)) rfl
theorem w108 : (Cond.laysFinal "LockHouse" "LockHouse" "list" "LLockHouse$EntryList;") ∈ TT := tt_mem (tb1 (List.mem_of_getElem? (i := 108) rfl)) rfl
theorem w109 : (Cond.soleField "LockHouse" "list") ∈ TT := tt_mem (tb1 (List.mem_of_getElem? (i := 109) rfl)) rfl
theorem w110 : (Cond.laysFinal "LockHouse" "LockHouse" "doors" "[LLockHouse$Door;") ∈ TT := tt_mem (tb1 (List.mem_of_getElem? (i := 110) rfl)) rfl
theorem w111 : (Cond.soleField "LockHouse" "doors") ∈ TT := tt_mem (tb1 (List.mem_of_getElem? (i := 111) rfl)) rfl
theorem w112 : (Cond.laysFinal "LockHouse" "LockHouse" "visitCard" "[I") ∈ TT := tt_mem (tb1 (List.mem_of_getElem? (i := 112) rfl)) rfl
theorem w113 : (Cond.soleField "LockHouse" "visitCard") ∈ TT := tt_mem (tb1 (List.mem_of_getElem? (i := 113) rfl)) rfl
theorem w114 : (Cond.laysFinal "LockHouse" "LockHouse" "visitDoor" "[I") ∈ TT := tt_mem (tb1 (List.mem_of_getElem? (i := 114) rfl)) rfl
theorem w115 : (Cond.soleField "LockHouse" "visitDoor") ∈ TT := tt_mem (tb1 (List.mem_of_getElem? (i := 115) rfl)) rfl
theorem w116 : (Cond.laysFinal "LockHouse" "LockHouse" "visitDay" "[I") ∈ TT := tt_mem (tb1 (List.mem_of_getElem? (i := 116) rfl)) rfl
theorem w117 : (Cond.soleField "LockHouse" "visitDay") ∈ TT := tt_mem (tb1 (List.mem_of_getElem? (i := 117) rfl)) rfl
theorem w118 : (Cond.superclass "LockHouse" "java/lang/Object") ∈ TT := tt_mem (tb1 (List.mem_of_getElem? (i := 118) rfl)) rfl
theorem w119 : (Cond.methodLink "LockHouseLaw" (88 : Nat) ({ cls := "LockHouse", name := "cards", desc := "()I" } : MethodName)) ∈ TT := tt_mem (tb1 (List.mem_of_getElem? (i := 119) rfl)) rfl
theorem w120 : (Cond.instanceMethod ({ cls := "LockHouse", name := "cards", desc := "()I" } : MethodName)) ∈ TT := tt_mem (tb1 (List.mem_of_getElem? (i := 120) rfl)) rfl
theorem w121 : (Cond.selects "LockHouse" ({ cls := "LockHouse", name := "cards", desc := "()I" } : MethodName) ({ cls := "LockHouse", name := "cards", desc := "()I" } : MethodName)) ∈ TT := tt_mem (tb1 (List.mem_of_getElem? (i := 121) rfl)) rfl
theorem w122 : (Cond.code ({ cls := "LockHouse", name := "cards", desc := "()I" } : MethodName) prog_1_method_3_code (1 : Nat) (Option.some FieldType.int)) ∈ TT := tt_mem (tb1 (List.mem_of_getElem? (i := 122) rfl)) rfl
theorem w123 : (Cond.methodLink "LockHouse" (48 : Nat) ({ cls := "java/util/ArrayList", name := "size", desc := "()I" } : MethodName)) ∈ TT := tt_mem (tb1 (List.mem_of_getElem? (i := 123) rfl)) rfl
theorem w124 : (Cond.instanceMethod ({ cls := "java/util/ArrayList", name := "size", desc := "()I" } : MethodName)) ∈ TT := tt_mem (tb1 (List.mem_of_getElem? (i := 124) rfl)) rfl
theorem w125 : (Cond.selects "java/util/ArrayList" ({ cls := "java/util/ArrayList", name := "size", desc := "()I" } : MethodName) ({ cls := "java/util/ArrayList", name := "size", desc := "()I" } : MethodName)) ∈ TT := tt_mem (tb1 (List.mem_of_getElem? (i := 125) rfl)) rfl
theorem w126 : (Cond.code ({ cls := "java/util/ArrayList", name := "size", desc := "()I" } : MethodName) prog_23_method_8_code (1 : Nat) (Option.some FieldType.int)) ∈ TT := tt_mem (tb1 (List.mem_of_getElem? (i := 126) rfl)) rfl
theorem w127 : (Cond.methodLink "LockHouseLaw" (96 : Nat) ({ cls := "LockHouse", name := "entries", desc := "()I" } : MethodName)) ∈ TT := tt_mem (tb1 (List.mem_of_getElem? (i := 127) rfl)) rfl
theorem w128 : (Cond.instanceMethod ({ cls := "LockHouse", name := "entries", desc := "()I" } : MethodName)) ∈ TT := tt_mem (tb1 (List.mem_of_getElem? (i := 128) rfl)) rfl
theorem w129 : (Cond.selects "LockHouse" ({ cls := "LockHouse", name := "entries", desc := "()I" } : MethodName) ({ cls := "LockHouse", name := "entries", desc := "()I" } : MethodName)) ∈ TT := tt_mem (tb1 (List.mem_of_getElem? (i := 129) rfl)) rfl
theorem w130 : (Cond.code ({ cls := "LockHouse", name := "entries", desc := "()I" } : MethodName) prog_1_method_5_code (1 : Nat) (Option.some FieldType.int)) ∈ TT := tt_mem (tb1 (List.mem_of_getElem? (i := 130) rfl)) rfl
theorem w131 : (Cond.methodLink "LockHouse" (76 : Nat) ({ cls := "LockHouse$EntryList", name := "made", desc := "()I" } : MethodName)) ∈ TT := tt_mem (tb1 (List.mem_of_getElem? (i := 131) rfl)) rfl
theorem w132 : (Cond.instanceMethod ({ cls := "LockHouse$EntryList", name := "made", desc := "()I" } : MethodName)) ∈ TT := tt_mem (tb1 (List.mem_of_getElem? (i := 132) rfl)) rfl
theorem w133 : (Cond.selects "LockHouse$EntryList" ({ cls := "LockHouse$EntryList", name := "made", desc := "()I" } : MethodName) ({ cls := "LockHouse$EntryList", name := "made", desc := "()I" } : MethodName)) ∈ TT := tt_mem (tb1 (List.mem_of_getElem? (i := 133) rfl)) rfl
theorem w134 : (Cond.code ({ cls := "LockHouse$EntryList", name := "made", desc := "()I" } : MethodName) prog_5_method_2_code (1 : Nat) (Option.some FieldType.int)) ∈ TT := tt_mem (tb1 (List.mem_of_getElem? (i := 134) rfl)) rfl
theorem w135 : (Cond.methodLink "LockHouse$EntryList" (18 : Nat) ({ cls := "java/util/ArrayList", name := "size", desc := "()I" } : MethodName)) ∈ TT := tt_mem (tb1 (List.mem_of_getElem? (i := 135) rfl)) rfl
theorem w136 : (Cond.methodLink "LockHouseLaw" (78 : Nat) ({ cls := "LockHouseLaw", name := "issue", desc := "(LLockHouse;II[J)I" } : MethodName)) ∈ TT := tt_mem (tb1 (List.mem_of_getElem? (i := 136) rfl)) rfl
theorem w137 : (Cond.static ({ cls := "LockHouseLaw", name := "issue", desc := "(LLockHouse;II[J)I" } : MethodName)) ∈ TT := tt_mem (tb1 (List.mem_of_getElem? (i := 137) rfl)) rfl
theorem w138 : (Cond.codeWith ({ cls := "LockHouseLaw", name := "issue", desc := "(LLockHouse;II[J)I" } : MethodName) method_3_code (5 : Nat) (Option.some FieldType.int) [((0 : Nat), (10 : Nat), (13 : Nat), (13 : Nat))]) ∈ TT := tt_mem (tb1 (List.mem_of_getElem? (i := 138) rfl)) rfl
theorem w139 : (Cond.classLink "LockHouseLaw" (13 : Nat) "java/lang/IllegalStateException") ∈ TT := tt_mem (tb1 (List.mem_of_getElem? (i := 139) rfl)) rfl
theorem w140 : (Cond.methodLink "LockHouseLaw" (7 : Nat) ({ cls := "LockHouse", name := "issue", desc := "(II)I" } : MethodName)) ∈ TT := tt_mem (tb1 (List.mem_of_getElem? (i := 140) rfl)) rfl
theorem w141 : (Cond.instanceMethod ({ cls := "LockHouse", name := "issue", desc := "(II)I" } : MethodName)) ∈ TT := tt_mem (tb1 (List.mem_of_getElem? (i := 141) rfl)) rfl
theorem w142 : (Cond.selects "LockHouse" ({ cls := "LockHouse", name := "issue", desc := "(II)I" } : MethodName) ({ cls := "LockHouse", name := "issue", desc := "(II)I" } : MethodName)) ∈ TT := tt_mem (tb1 (List.mem_of_getElem? (i := 142) rfl)) rfl
theorem w143 : (Cond.code ({ cls := "LockHouse", name := "issue", desc := "(II)I" } : MethodName) prog_1_method_2_code (3 : Nat) (Option.some FieldType.int)) ∈ TT := tt_mem (tb1 (List.mem_of_getElem? (i := 143) rfl)) rfl
theorem w144 : (Cond.classLink "LockHouse" (52 : Nat) "java/lang/IllegalStateException") ∈ TT := tt_mem (tb1 (List.mem_of_getElem? (i := 144) rfl)) rfl
theorem w145 : (Cond.instantiable "java/lang/IllegalStateException" (6 : Nat)) ∈ TT := tt_mem (tb1 (List.mem_of_getElem? (i := 145) rfl)) rfl
theorem u146 : (Cond.castable "java/lang/IllegalStateException" "java/lang/IllegalStateException") ∈ lw_tbl := tb1 (List.mem_of_getElem? (i := 146) rfl)
theorem u147 : (Cond.declares ({ cls := "java/lang/RuntimeException", name := "<init>", desc := "()V" } : MethodName)) ∈ lw_tbl := tb1 (List.mem_of_getElem? (i := 147) rfl)
theorem u148 : (Cond.declares ({ cls := "java/lang/RuntimeException", name := "<init>", desc := "(Ljava/lang/String;)V" } : MethodName)) ∈ lw_tbl := tb1 (List.mem_of_getElem? (i := 148) rfl)
theorem u149 : (Cond.declares ({ cls := "java/lang/Exception", name := "<init>", desc := "()V" } : MethodName)) ∈ lw_tbl := tb1 (List.mem_of_getElem? (i := 149) rfl)
theorem u150 : (Cond.declares ({ cls := "java/lang/Exception", name := "<init>", desc := "(Ljava/lang/String;)V" } : MethodName)) ∈ lw_tbl := tb1 (List.mem_of_getElem? (i := 150) rfl)
theorem u151 : (Cond.declares ({ cls := "java/lang/Throwable", name := "<init>", desc := "()V" } : MethodName)) ∈ lw_tbl := tb1 (List.mem_of_getElem? (i := 151) rfl)
theorem u152 : (Cond.declares ({ cls := "java/lang/Throwable", name := "<init>", desc := "(Ljava/lang/String;)V" } : MethodName)) ∈ lw_tbl := tb1 (List.mem_of_getElem? (i := 152) rfl)
theorem w153 : (Cond.selects "java/lang/IllegalStateException" ({ cls := "java/lang/Throwable", name := "fillInStackTrace", desc := "(I)Ljava/lang/Throwable;" } : MethodName) ({ cls := "java/lang/Throwable", name := "fillInStackTrace", desc := "(I)Ljava/lang/Throwable;" } : MethodName)) ∈ TT := tt_mem (tb1 (List.mem_of_getElem? (i := 153) rfl)) rfl
theorem w154 : (Cond.selects "java/lang/IllegalStateException" ({ cls := "java/lang/Throwable", name := "fillInStackTrace", desc := "()Ljava/lang/Throwable;" } : MethodName) ({ cls := "java/lang/Throwable", name := "fillInStackTrace", desc := "()Ljava/lang/Throwable;" } : MethodName)) ∈ TT := tt_mem (tb1 (List.mem_of_getElem? (i := 154) rfl)) rfl
theorem w155 : (Cond.lays "java/lang/IllegalStateException" "java/lang/Throwable" "cause" "Ljava/lang/Throwable;") ∈ TT := tt_mem (tb1 (List.mem_of_getElem? (i := 155) rfl)) rfl
theorem w156 : (Cond.lays "java/lang/Throwable" "java/lang/Throwable" "cause" "Ljava/lang/Throwable;") ∈ TT := tt_mem (tb1 (List.mem_of_getElem? (i := 156) rfl)) rfl
theorem w157 : (Cond.lays "java/lang/IllegalStateException" "java/lang/Throwable" "stackTrace" "[Ljava/lang/StackTraceElement;") ∈ TT := tt_mem (tb1 (List.mem_of_getElem? (i := 157) rfl)) rfl
theorem w158 : (Cond.lays "java/lang/Throwable" "java/lang/Throwable" "stackTrace" "[Ljava/lang/StackTraceElement;") ∈ TT := tt_mem (tb1 (List.mem_of_getElem? (i := 158) rfl)) rfl
theorem w159 : (Cond.lays "java/lang/IllegalStateException" "java/lang/Throwable" "suppressedExceptions" "Ljava/util/List;") ∈ TT := tt_mem (tb1 (List.mem_of_getElem? (i := 159) rfl)) rfl
theorem w160 : (Cond.lays "java/lang/Throwable" "java/lang/Throwable" "suppressedExceptions" "Ljava/util/List;") ∈ TT := tt_mem (tb1 (List.mem_of_getElem? (i := 160) rfl)) rfl
theorem w161 : (Cond.lays "java/lang/IllegalStateException" "java/lang/Throwable" "detailMessage" "Ljava/lang/String;") ∈ TT := tt_mem (tb1 (List.mem_of_getElem? (i := 161) rfl)) rfl
theorem w162 : (Cond.lays "java/lang/Throwable" "java/lang/Throwable" "detailMessage" "Ljava/lang/String;") ∈ TT := tt_mem (tb1 (List.mem_of_getElem? (i := 162) rfl)) rfl
theorem w163 : (Cond.lays "java/lang/IllegalStateException" "java/lang/Throwable" "backtrace" "Ljava/lang/Object;") ∈ TT := tt_mem (tb1 (List.mem_of_getElem? (i := 163) rfl)) rfl
theorem w164 : (Cond.lays "java/lang/Throwable" "java/lang/Throwable" "backtrace" "Ljava/lang/Object;") ∈ TT := tt_mem (tb1 (List.mem_of_getElem? (i := 164) rfl)) rfl
theorem w165 : (Cond.fieldLink "java/lang/Throwable" (198 : Nat) "java/lang/Throwable" "backtrace" "Ljava/lang/Object;") ∈ TT := tt_mem (tb1 (List.mem_of_getElem? (i := 165) rfl)) rfl
theorem w166 : (Cond.superclass "java/lang/Throwable" "java/lang/Object") ∈ TT := tt_mem (tb1 (List.mem_of_getElem? (i := 166) rfl)) rfl
theorem w167 : (Cond.instanceMethod ({ cls := "java/lang/Throwable", name := "<init>", desc := "()V" } : MethodName)) ∈ TT := tt_mem (tb1 (List.mem_of_getElem? (i := 167) rfl)) rfl
theorem w168 : (Cond.code ({ cls := "java/lang/Throwable", name := "<init>", desc := "()V" } : MethodName) prog_20_method_1_code (1 : Nat) (Option.none : Option FieldType)) ∈ TT := tt_mem (tb1 (List.mem_of_getElem? (i := 168) rfl)) rfl
theorem w169 : (Cond.methodLink "java/lang/Throwable" (1 : Nat) ({ cls := "java/lang/Object", name := "<init>", desc := "()V" } : MethodName)) ∈ TT := tt_mem (tb1 (List.mem_of_getElem? (i := 169) rfl)) rfl
theorem w170 : (Cond.fieldLink "java/lang/Throwable" (13 : Nat) "java/lang/Throwable" "UNASSIGNED_STACK" "[Ljava/lang/StackTraceElement;") ∈ TT := tt_mem (tb1 (List.mem_of_getElem? (i := 170) rfl)) rfl
theorem u171 : (Cond.laysStatic "java/lang/Throwable" "UNASSIGNED_STACK" "[Ljava/lang/StackTraceElement;") ∈ lw_tbl := tb1 (List.mem_of_getElem? (i := 171) rfl)
theorem w172 : (Cond.fieldLink "java/lang/Throwable" (20 : Nat) "java/lang/Throwable" "SUPPRESSED_SENTINEL" "Ljava/util/List;") ∈ TT := tt_mem (tb1 (List.mem_of_getElem? (i := 172) rfl)) rfl
theorem u173 : (Cond.laysStatic "java/lang/Throwable" "SUPPRESSED_SENTINEL" "Ljava/util/List;") ∈ lw_tbl := tb1 (List.mem_of_getElem? (i := 173) rfl)
theorem w174 : (Cond.methodLink "java/lang/Throwable" (27 : Nat) ({ cls := "java/lang/Throwable", name := "fillInStackTrace", desc := "()Ljava/lang/Throwable;" } : MethodName)) ∈ TT := tt_mem (tb1 (List.mem_of_getElem? (i := 174) rfl)) rfl
theorem w175 : (Cond.instanceMethod ({ cls := "java/lang/Throwable", name := "fillInStackTrace", desc := "()Ljava/lang/Throwable;" } : MethodName)) ∈ TT := tt_mem (tb1 (List.mem_of_getElem? (i := 175) rfl)) rfl
theorem w176 : (Cond.sameMethod "java/lang/Throwable" "java/lang/Throwable" "fillInStackTrace" "()Ljava/lang/Throwable;") ∈ TT := tt_mem (tb1 (List.mem_of_getElem? (i := 176) rfl)) rfl
theorem w177 : (Cond.selects "java/lang/IllegalArgumentException" ({ cls := "java/lang/Throwable", name := "fillInStackTrace", desc := "()Ljava/lang/Throwable;" } : MethodName) ({ cls := "java/lang/Throwable", name := "fillInStackTrace", desc := "()Ljava/lang/Throwable;" } : MethodName)) ∈ TT := tt_mem (tb1 (List.mem_of_getElem? (i := 177) rfl)) rfl
theorem w178 : (Cond.selects "java/lang/IndexOutOfBoundsException" ({ cls := "java/lang/Throwable", name := "fillInStackTrace", desc := "()Ljava/lang/Throwable;" } : MethodName) ({ cls := "java/lang/Throwable", name := "fillInStackTrace", desc := "()Ljava/lang/Throwable;" } : MethodName)) ∈ TT := tt_mem (tb1 (List.mem_of_getElem? (i := 178) rfl)) rfl
theorem w179 : (Cond.codeSync ({ cls := "java/lang/Throwable", name := "fillInStackTrace", desc := "()Ljava/lang/Throwable;" } : MethodName) prog_20_method_18_code (1 : Nat) (Option.some (FieldType.object "java/lang/Throwable"))) ∈ TT := tt_mem (tb1 (List.mem_of_getElem? (i := 179) rfl)) rfl
theorem w180 : (Cond.methodLink "java/lang/Throwable" (202 : Nat) ({ cls := "java/lang/Throwable", name := "fillInStackTrace", desc := "(I)Ljava/lang/Throwable;" } : MethodName)) ∈ TT := tt_mem (tb1 (List.mem_of_getElem? (i := 180) rfl)) rfl
theorem u181 : (Cond.privateMethod ({ cls := "java/lang/Throwable", name := "fillInStackTrace", desc := "(I)Ljava/lang/Throwable;" } : MethodName)) ∈ lw_tbl := tb1 (List.mem_of_getElem? (i := 181) rfl)
theorem w182 : (Cond.instanceMethod ({ cls := "java/lang/Throwable", name := "fillInStackTrace", desc := "(I)Ljava/lang/Throwable;" } : MethodName)) ∈ TT := tt_mem (tb1 (List.mem_of_getElem? (i := 182) rfl)) rfl
theorem w183 : (Cond.instantiable "java/lang/Throwable" (6 : Nat)) ∈ TT := tt_mem (tb1 (List.mem_of_getElem? (i := 183) rfl)) rfl
theorem u184 : (Cond.native ({ cls := "java/lang/Throwable", name := "fillInStackTrace", desc := "(I)Ljava/lang/Throwable;" } : MethodName)) ∈ lw_tbl := tb1 (List.mem_of_getElem? (i := 184) rfl)
theorem u185 : (Cond.stringRef "LockHouse" (54 : Nat) "no more cards can be issued") ∈ lw_tbl := tb1 (List.mem_of_getElem? (i := 185) rfl)
theorem w186 : (Cond.methodLink "LockHouse" (56 : Nat) ({ cls := "java/lang/IllegalStateException", name := "<init>", desc := "(Ljava/lang/String;)V" } : MethodName)) ∈ TT := tt_mem (tb1 (List.mem_of_getElem? (i := 186) rfl)) rfl
theorem w187 : (Cond.instanceMethod ({ cls := "java/lang/IllegalStateException", name := "<init>", desc := "(Ljava/lang/String;)V" } : MethodName)) ∈ TT := tt_mem (tb1 (List.mem_of_getElem? (i := 187) rfl)) rfl
theorem w188 : (Cond.code ({ cls := "java/lang/IllegalStateException", name := "<init>", desc := "(Ljava/lang/String;)V" } : MethodName) prog_13_method_2_code (2 : Nat) (Option.none : Option FieldType)) ∈ TT := tt_mem (tb1 (List.mem_of_getElem? (i := 188) rfl)) rfl
theorem w189 : (Cond.methodLink "java/lang/IllegalStateException" (7 : Nat) ({ cls := "java/lang/RuntimeException", name := "<init>", desc := "(Ljava/lang/String;)V" } : MethodName)) ∈ TT := tt_mem (tb1 (List.mem_of_getElem? (i := 189) rfl)) rfl
theorem w190 : (Cond.instanceMethod ({ cls := "java/lang/RuntimeException", name := "<init>", desc := "(Ljava/lang/String;)V" } : MethodName)) ∈ TT := tt_mem (tb1 (List.mem_of_getElem? (i := 190) rfl)) rfl
theorem w191 : (Cond.code ({ cls := "java/lang/RuntimeException", name := "<init>", desc := "(Ljava/lang/String;)V" } : MethodName) prog_17_method_2_code (2 : Nat) (Option.none : Option FieldType)) ∈ TT := tt_mem (tb1 (List.mem_of_getElem? (i := 191) rfl)) rfl
theorem w192 : (Cond.methodLink "java/lang/RuntimeException" (7 : Nat) ({ cls := "java/lang/Exception", name := "<init>", desc := "(Ljava/lang/String;)V" } : MethodName)) ∈ TT := tt_mem (tb1 (List.mem_of_getElem? (i := 192) rfl)) rfl
theorem w193 : (Cond.instanceMethod ({ cls := "java/lang/Exception", name := "<init>", desc := "(Ljava/lang/String;)V" } : MethodName)) ∈ TT := tt_mem (tb1 (List.mem_of_getElem? (i := 193) rfl)) rfl
theorem w194 : (Cond.code ({ cls := "java/lang/Exception", name := "<init>", desc := "(Ljava/lang/String;)V" } : MethodName) prog_11_method_2_code (2 : Nat) (Option.none : Option FieldType)) ∈ TT := tt_mem (tb1 (List.mem_of_getElem? (i := 194) rfl)) rfl
theorem w195 : (Cond.methodLink "java/lang/Exception" (7 : Nat) ({ cls := "java/lang/Throwable", name := "<init>", desc := "(Ljava/lang/String;)V" } : MethodName)) ∈ TT := tt_mem (tb1 (List.mem_of_getElem? (i := 195) rfl)) rfl
theorem w196 : (Cond.instanceMethod ({ cls := "java/lang/Throwable", name := "<init>", desc := "(Ljava/lang/String;)V" } : MethodName)) ∈ TT := tt_mem (tb1 (List.mem_of_getElem? (i := 196) rfl)) rfl
theorem w197 : (Cond.code ({ cls := "java/lang/Throwable", name := "<init>", desc := "(Ljava/lang/String;)V" } : MethodName) prog_20_method_2_code (2 : Nat) (Option.none : Option FieldType)) ∈ TT := tt_mem (tb1 (List.mem_of_getElem? (i := 197) rfl)) rfl
theorem w198 : (Cond.fieldLink "java/lang/Throwable" (198 : Nat) "java/lang/Throwable" "backtrace" "Ljava/lang/Object;") ∈ TT := tt_mem (tb1 (List.mem_of_getElem? (i := 198) rfl)) rfl
theorem w199 : (Cond.fieldLink "java/lang/Throwable" (31 : Nat) "java/lang/Throwable" "detailMessage" "Ljava/lang/String;") ∈ TT := tt_mem (tb1 (List.mem_of_getElem? (i := 199) rfl)) rfl
theorem w200 : (Cond.fieldLink "java/lang/Throwable" (7 : Nat) "java/lang/Throwable" "cause" "Ljava/lang/Throwable;") ∈ TT := tt_mem (tb1 (List.mem_of_getElem? (i := 200) rfl)) rfl
theorem w201 : (Cond.fieldLink "java/lang/Throwable" (17 : Nat) "java/lang/Throwable" "stackTrace" "[Ljava/lang/StackTraceElement;") ∈ TT := tt_mem (tb1 (List.mem_of_getElem? (i := 201) rfl)) rfl
theorem w202 : (Cond.fieldLink "java/lang/Throwable" (24 : Nat) "java/lang/Throwable" "suppressedExceptions" "Ljava/util/List;") ∈ TT := tt_mem (tb1 (List.mem_of_getElem? (i := 202) rfl)) rfl
theorem w203 : (Cond.soleField "java/lang/Throwable" "backtrace") ∈ TT := tt_mem (tb1 (List.mem_of_getElem? (i := 203) rfl)) rfl
theorem w204 : (Cond.soleField "java/lang/Throwable" "detailMessage") ∈ TT := tt_mem (tb1 (List.mem_of_getElem? (i := 204) rfl)) rfl
theorem w205 : (Cond.soleField "java/lang/Throwable" "cause") ∈ TT := tt_mem (tb1 (List.mem_of_getElem? (i := 205) rfl)) rfl
theorem w206 : (Cond.soleField "java/lang/Throwable" "stackTrace") ∈ TT := tt_mem (tb1 (List.mem_of_getElem? (i := 206) rfl)) rfl
theorem w207 : (Cond.lays "java/lang/IllegalStateException" "java/lang/Throwable" "depth" "I") ∈ TT := tt_mem (tb1 (List.mem_of_getElem? (i := 207) rfl)) rfl
theorem w208 : (Cond.soleField "java/lang/Throwable" "depth") ∈ TT := tt_mem (tb1 (List.mem_of_getElem? (i := 208) rfl)) rfl
theorem w209 : (Cond.soleField "java/lang/Throwable" "suppressedExceptions") ∈ TT := tt_mem (tb1 (List.mem_of_getElem? (i := 209) rfl)) rfl
theorem w210 : (Cond.superclass "java/lang/IllegalStateException" "java/lang/RuntimeException") ∈ TT := tt_mem (tb1 (List.mem_of_getElem? (i := 210) rfl)) rfl
theorem w211 : (Cond.arrayClass FieldType.byte) ∈ TT := tt_mem (tb1 (List.mem_of_getElem? (i := 211) rfl)) rfl
theorem w212 : (Cond.classLink "LockHouse" (59 : Nat) "LockHouse$Card") ∈ TT := tt_mem (tb1 (List.mem_of_getElem? (i := 212) rfl)) rfl
theorem w213 : (Cond.instantiable "LockHouse$Card" (8 : Nat)) ∈ TT := tt_mem (tb1 (List.mem_of_getElem? (i := 213) rfl)) rfl
theorem w214 : (Cond.methodLink "LockHouse" (61 : Nat) ({ cls := "LockHouse$Card", name := "<init>", desc := "(II)V" } : MethodName)) ∈ TT := tt_mem (tb1 (List.mem_of_getElem? (i := 214) rfl)) rfl
theorem w215 : (Cond.instanceMethod ({ cls := "LockHouse$Card", name := "<init>", desc := "(II)V" } : MethodName)) ∈ TT := tt_mem (tb1 (List.mem_of_getElem? (i := 215) rfl)) rfl
theorem w216 : (Cond.code ({ cls := "LockHouse$Card", name := "<init>", desc := "(II)V" } : MethodName) prog_2_method_1_code (3 : Nat) (Option.none : Option FieldType)) ∈ TT := tt_mem (tb1 (List.mem_of_getElem? (i := 216) rfl)) rfl
theorem w217 : (Cond.methodLink "LockHouse$Card" (1 : Nat) ({ cls := "java/lang/Object", name := "<init>", desc := "()V" } : MethodName)) ∈ TT := tt_mem (tb1 (List.mem_of_getElem? (i := 217) rfl)) rfl
theorem w218 : (Cond.classLink "LockHouse$Card" (7 : Nat) "LockHouse$Image") ∈ TT := tt_mem (tb1 (List.mem_of_getElem? (i := 218) rfl)) rfl
theorem w219 : (Cond.instantiable "LockHouse$Image" (1 : Nat)) ∈ TT := tt_mem (tb1 (List.mem_of_getElem? (i := 219) rfl)) rfl
theorem u220 : (Cond.methodLinkNest "LockHouse$Card" (9 : Nat) ({ cls := "LockHouse$Image", name := "<init>", desc := "()V" } : MethodName) "LockHouse") ∈ lw_tbl := tb1 (List.mem_of_getElem? (i := 220) rfl)
theorem w221 : (Cond.instanceMethod ({ cls := "LockHouse$Image", name := "<init>", desc := "()V" } : MethodName)) ∈ TT := tt_mem (tb1 (List.mem_of_getElem? (i := 221) rfl)) rfl
theorem w222 : (Cond.code ({ cls := "LockHouse$Image", name := "<init>", desc := "()V" } : MethodName) prog_6_method_1_code (1 : Nat) (Option.none : Option FieldType)) ∈ TT := tt_mem (tb1 (List.mem_of_getElem? (i := 222) rfl)) rfl
theorem w223 : (Cond.methodLink "LockHouse$Image" (1 : Nat) ({ cls := "java/lang/Object", name := "<init>", desc := "()V" } : MethodName)) ∈ TT := tt_mem (tb1 (List.mem_of_getElem? (i := 223) rfl)) rfl
theorem w224 : (Cond.fieldLink "LockHouse$Image" (9 : Nat) "LockHouse$Image" "words" "[S") ∈ TT := tt_mem (tb1 (List.mem_of_getElem? (i := 224) rfl)) rfl
theorem w225 : (Cond.laysFinal "LockHouse$Image" "LockHouse$Image" "words" "[S") ∈ TT := tt_mem (tb1 (List.mem_of_getElem? (i := 225) rfl)) rfl
theorem w226 : (Cond.soleField "LockHouse$Image" "words") ∈ TT := tt_mem (tb1 (List.mem_of_getElem? (i := 226) rfl)) rfl
theorem w227 : (Cond.superclass "LockHouse$Image" "java/lang/Object") ∈ TT := tt_mem (tb1 (List.mem_of_getElem? (i := 227) rfl)) rfl
theorem w228 : (Cond.arrayClass FieldType.short) ∈ TT := tt_mem (tb1 (List.mem_of_getElem? (i := 228) rfl)) rfl
theorem w229 : (Cond.fieldLink "LockHouse$Card" (32 : Nat) "LockHouse$Card" "zones" "I") ∈ TT := tt_mem (tb1 (List.mem_of_getElem? (i := 229) rfl)) rfl
theorem w230 : (Cond.fieldLink "LockHouse$Card" (35 : Nat) "LockHouse$Card" "endDay" "I") ∈ TT := tt_mem (tb1 (List.mem_of_getElem? (i := 230) rfl)) rfl
theorem u231 : (Cond.fieldLinkNest "LockHouse$Door" (63 : Nat) "LockHouse$Card" "endDay" "I" "LockHouse") ∈ lw_tbl := tb1 (List.mem_of_getElem? (i := 231) rfl)
theorem w232 : (Cond.fieldLink "LockHouse$Card" (10 : Nat) "LockHouse$Card" "image0" "LLockHouse$Image;") ∈ TT := tt_mem (tb1 (List.mem_of_getElem? (i := 232) rfl)) rfl
theorem w233 : (Cond.fieldLink "LockHouse$Card" (16 : Nat) "LockHouse$Card" "image1" "LLockHouse$Image;") ∈ TT := tt_mem (tb1 (List.mem_of_getElem? (i := 233) rfl)) rfl
theorem w234 : (Cond.fieldLink "LockHouse$Card" (19 : Nat) "LockHouse$Card" "entry" "I") ∈ TT := tt_mem (tb1 (List.mem_of_getElem? (i := 234) rfl)) rfl
theorem u235 : (Cond.fieldLinkNest "LockHouse$Door" (54 : Nat) "LockHouse$Card" "entry" "I" "LockHouse") ∈ lw_tbl := tb1 (List.mem_of_getElem? (i := 235) rfl)
theorem u236 : (Cond.fieldLinkNest "LockHouse" (72 : Nat) "LockHouse$Card" "entry" "I" "LockHouse") ∈ lw_tbl := tb1 (List.mem_of_getElem? (i := 236) rfl)
theorem w237 : (Cond.fieldLink "LockHouse$Card" (23 : Nat) "LockHouse$Card" "keep" "I") ∈ TT := tt_mem (tb1 (List.mem_of_getElem? (i := 237) rfl)) rfl
theorem u238 : (Cond.fieldLinkNest "LockHouse" (119 : Nat) "LockHouse$Card" "keep" "I" "LockHouse") ∈ lw_tbl := tb1 (List.mem_of_getElem? (i := 238) rfl)
theorem w239 : (Cond.fieldLink "LockHouse$Card" (26 : Nat) "LockHouse$Card" "wordsLeft" "I") ∈ TT := tt_mem (tb1 (List.mem_of_getElem? (i := 239) rfl)) rfl
theorem w240 : (Cond.fieldLink "LockHouse$Card" (29 : Nat) "LockHouse$Card" "wordsWritten" "I") ∈ TT := tt_mem (tb2 (List.mem_of_getElem? (i := 0) rfl)) rfl
theorem u241 : (Cond.fieldLinkNest "LockHouse" (122 : Nat) "LockHouse$Card" "wordsWritten" "I" "LockHouse") ∈ lw_tbl := tb2 (List.mem_of_getElem? (i := 1) rfl)
theorem w242 : (Cond.laysFinal "LockHouse$Card" "LockHouse$Card" "zones" "I") ∈ TT := tt_mem (tb2 (List.mem_of_getElem? (i := 2) rfl)) rfl
theorem w243 : (Cond.soleField "LockHouse$Card" "zones") ∈ TT := tt_mem (tb2 (List.mem_of_getElem? (i := 3) rfl)) rfl
theorem w244 : (Cond.laysFinal "LockHouse$Card" "LockHouse$Card" "endDay" "I") ∈ TT := tt_mem (tb2 (List.mem_of_getElem? (i := 4) rfl)) rfl
theorem w245 : (Cond.soleField "LockHouse$Card" "endDay") ∈ TT := tt_mem (tb2 (List.mem_of_getElem? (i := 5) rfl)) rfl
theorem w246 : (Cond.laysFinal "LockHouse$Card" "LockHouse$Card" "image0" "LLockHouse$Image;") ∈ TT := tt_mem (tb2 (List.mem_of_getElem? (i := 6) rfl)) rfl
theorem w247 : (Cond.soleField "LockHouse$Card" "image0") ∈ TT := tt_mem (tb2 (List.mem_of_getElem? (i := 7) rfl)) rfl
theorem w248 : (Cond.laysFinal "LockHouse$Card" "LockHouse$Card" "image1" "LLockHouse$Image;") ∈ TT := tt_mem (tb2 (List.mem_of_getElem? (i := 8) rfl)) rfl
theorem w249 : (Cond.soleField "LockHouse$Card" "image1") ∈ TT := tt_mem (tb2 (List.mem_of_getElem? (i := 9) rfl)) rfl
theorem w250 : (Cond.lays "LockHouse$Card" "LockHouse$Card" "entry" "I") ∈ TT := tt_mem (tb2 (List.mem_of_getElem? (i := 10) rfl)) rfl
theorem w251 : (Cond.soleField "LockHouse$Card" "entry") ∈ TT := tt_mem (tb2 (List.mem_of_getElem? (i := 11) rfl)) rfl
theorem w252 : (Cond.lays "LockHouse$Card" "LockHouse$Card" "keep" "I") ∈ TT := tt_mem (tb2 (List.mem_of_getElem? (i := 12) rfl)) rfl
theorem w253 : (Cond.soleField "LockHouse$Card" "keep") ∈ TT := tt_mem (tb2 (List.mem_of_getElem? (i := 13) rfl)) rfl
theorem w254 : (Cond.lays "LockHouse$Card" "LockHouse$Card" "wordsLeft" "I") ∈ TT := tt_mem (tb2 (List.mem_of_getElem? (i := 14) rfl)) rfl
theorem w255 : (Cond.soleField "LockHouse$Card" "wordsLeft") ∈ TT := tt_mem (tb2 (List.mem_of_getElem? (i := 15) rfl)) rfl
theorem w256 : (Cond.lays "LockHouse$Card" "LockHouse$Card" "wordsWritten" "I") ∈ TT := tt_mem (tb2 (List.mem_of_getElem? (i := 16) rfl)) rfl
theorem w257 : (Cond.soleField "LockHouse$Card" "wordsWritten") ∈ TT := tt_mem (tb2 (List.mem_of_getElem? (i := 17) rfl)) rfl
theorem w258 : (Cond.superclass "LockHouse$Card" "java/lang/Object") ∈ TT := tt_mem (tb2 (List.mem_of_getElem? (i := 18) rfl)) rfl
theorem w259 : (Cond.methodLink "LockHouse" (64 : Nat) ({ cls := "java/util/ArrayList", name := "add", desc := "(Ljava/lang/Object;)Z" } : MethodName)) ∈ TT := tt_mem (tb2 (List.mem_of_getElem? (i := 19) rfl)) rfl
theorem w260 : (Cond.instanceMethod ({ cls := "java/util/ArrayList", name := "add", desc := "(Ljava/lang/Object;)Z" } : MethodName)) ∈ TT := tt_mem (tb2 (List.mem_of_getElem? (i := 20) rfl)) rfl
theorem w261 : (Cond.selects "java/util/ArrayList" ({ cls := "java/util/ArrayList", name := "add", desc := "(Ljava/lang/Object;)Z" } : MethodName) ({ cls := "java/util/ArrayList", name := "add", desc := "(Ljava/lang/Object;)Z" } : MethodName)) ∈ TT := tt_mem (tb2 (List.mem_of_getElem? (i := 21) rfl)) rfl
theorem w262 : (Cond.code ({ cls := "java/util/ArrayList", name := "add", desc := "(Ljava/lang/Object;)Z" } : MethodName) prog_23_method_25_code (2 : Nat) (Option.some FieldType.boolean)) ∈ TT := tt_mem (tb2 (List.mem_of_getElem? (i := 22) rfl)) rfl
theorem w263 : (Cond.methodLink "java/util/ArrayList" (131 : Nat) ({ cls := "java/util/ArrayList", name := "add", desc := "(Ljava/lang/Object;[Ljava/lang/Object;I)V" } : MethodName)) ∈ TT := tt_mem (tb2 (List.mem_of_getElem? (i := 23) rfl)) rfl
theorem u264 : (Cond.privateMethod ({ cls := "java/util/ArrayList", name := "add", desc := "(Ljava/lang/Object;[Ljava/lang/Object;I)V" } : MethodName)) ∈ lw_tbl := tb2 (List.mem_of_getElem? (i := 24) rfl)
theorem w265 : (Cond.instanceMethod ({ cls := "java/util/ArrayList", name := "add", desc := "(Ljava/lang/Object;[Ljava/lang/Object;I)V" } : MethodName)) ∈ TT := tt_mem (tb2 (List.mem_of_getElem? (i := 25) rfl)) rfl
theorem w266 : (Cond.code ({ cls := "java/util/ArrayList", name := "add", desc := "(Ljava/lang/Object;[Ljava/lang/Object;I)V" } : MethodName) prog_23_method_24_code (4 : Nat) (Option.none : Option FieldType)) ∈ TT := tt_mem (tb2 (List.mem_of_getElem? (i := 26) rfl)) rfl
theorem w267 : (Cond.methodLink "java/util/ArrayList" (129 : Nat) ({ cls := "java/util/ArrayList", name := "grow", desc := "()[Ljava/lang/Object;" } : MethodName)) ∈ TT := tt_mem (tb2 (List.mem_of_getElem? (i := 27) rfl)) rfl
theorem u268 : (Cond.privateMethod ({ cls := "java/util/ArrayList", name := "grow", desc := "()[Ljava/lang/Object;" } : MethodName)) ∈ lw_tbl := tb2 (List.mem_of_getElem? (i := 28) rfl)
theorem w269 : (Cond.instanceMethod ({ cls := "java/util/ArrayList", name := "grow", desc := "()[Ljava/lang/Object;" } : MethodName)) ∈ TT := tt_mem (tb2 (List.mem_of_getElem? (i := 29) rfl)) rfl
theorem w270 : (Cond.code ({ cls := "java/util/ArrayList", name := "grow", desc := "()[Ljava/lang/Object;" } : MethodName) prog_23_method_7_code (1 : Nat) (Option.some (FieldType.array (FieldType.object "java/lang/Object")))) ∈ TT := tt_mem (tb2 (List.mem_of_getElem? (i := 30) rfl)) rfl
theorem w271 : (Cond.methodLink "java/util/ArrayList" (69 : Nat) ({ cls := "java/util/ArrayList", name := "grow", desc := "(I)[Ljava/lang/Object;" } : MethodName)) ∈ TT := tt_mem (tb2 (List.mem_of_getElem? (i := 31) rfl)) rfl
theorem u272 : (Cond.privateMethod ({ cls := "java/util/ArrayList", name := "grow", desc := "(I)[Ljava/lang/Object;" } : MethodName)) ∈ lw_tbl := tb2 (List.mem_of_getElem? (i := 32) rfl)
theorem w273 : (Cond.instanceMethod ({ cls := "java/util/ArrayList", name := "grow", desc := "(I)[Ljava/lang/Object;" } : MethodName)) ∈ TT := tt_mem (tb2 (List.mem_of_getElem? (i := 33) rfl)) rfl
theorem w274 : (Cond.code ({ cls := "java/util/ArrayList", name := "grow", desc := "(I)[Ljava/lang/Object;" } : MethodName) prog_23_method_6_code (4 : Nat) (Option.some (FieldType.array (FieldType.object "java/lang/Object")))) ∈ TT := tt_mem (tb2 (List.mem_of_getElem? (i := 34) rfl)) rfl
theorem w275 : (Cond.methodLink "java/util/ArrayList" (73 : Nat) ({ cls := "jdk/internal/util/ArraysSupport", name := "newLength", desc := "(III)I" } : MethodName)) ∈ TT := tt_mem (tb2 (List.mem_of_getElem? (i := 35) rfl)) rfl
theorem w276 : (Cond.static ({ cls := "jdk/internal/util/ArraysSupport", name := "newLength", desc := "(III)I" } : MethodName)) ∈ TT := tt_mem (tb2 (List.mem_of_getElem? (i := 36) rfl)) rfl
theorem w277 : (Cond.code ({ cls := "jdk/internal/util/ArraysSupport", name := "newLength", desc := "(III)I" } : MethodName) prog_30_method_27_code (4 : Nat) (Option.some FieldType.int)) ∈ TT := tt_mem (tb2 (List.mem_of_getElem? (i := 37) rfl)) rfl
theorem w278 : (Cond.methodLink "jdk/internal/util/ArraysSupport" (194 : Nat) ({ cls := "java/lang/Math", name := "max", desc := "(II)I" } : MethodName)) ∈ TT := tt_mem (tb2 (List.mem_of_getElem? (i := 38) rfl)) rfl
theorem w279 : (Cond.static ({ cls := "java/lang/Math", name := "max", desc := "(II)I" } : MethodName)) ∈ TT := tt_mem (tb2 (List.mem_of_getElem? (i := 39) rfl)) rfl
theorem w280 : (Cond.code ({ cls := "java/lang/Math", name := "max", desc := "(II)I" } : MethodName) prog_16_method_65_code (2 : Nat) (Option.some FieldType.int)) ∈ TT := tt_mem (tb2 (List.mem_of_getElem? (i := 40) rfl)) rfl
theorem w281 : (Cond.constant "jdk/internal/util/ArraysSupport" (200 : Nat) (2147483639 : Int32)) ∈ TT := tt_mem (tb2 (List.mem_of_getElem? (i := 41) rfl)) rfl
theorem w282 : (Cond.methodLink "jdk/internal/util/ArraysSupport" (201 : Nat) ({ cls := "jdk/internal/util/ArraysSupport", name := "hugeLength", desc := "(II)I" } : MethodName)) ∈ TT := tt_mem (tb2 (List.mem_of_getElem? (i := 42) rfl)) rfl
theorem w283 : (Cond.static ({ cls := "jdk/internal/util/ArraysSupport", name := "hugeLength", desc := "(II)I" } : MethodName)) ∈ TT := tt_mem (tb2 (List.mem_of_getElem? (i := 43) rfl)) rfl
theorem w284 : (Cond.code ({ cls := "jdk/internal/util/ArraysSupport", name := "hugeLength", desc := "(II)I" } : MethodName) prog_30_method_28_code (3 : Nat) (Option.some FieldType.int)) ∈ TT := tt_mem (tb2 (List.mem_of_getElem? (i := 44) rfl)) rfl
theorem w285 : (Cond.methodLink "java/util/ArrayList" (66 : Nat) ({ cls := "java/util/Arrays", name := "copyOf", desc := "([Ljava/lang/Object;I)[Ljava/lang/Object;" } : MethodName)) ∈ TT := tt_mem (tb2 (List.mem_of_getElem? (i := 45) rfl)) rfl
theorem w286 : (Cond.static ({ cls := "java/util/Arrays", name := "copyOf", desc := "([Ljava/lang/Object;I)[Ljava/lang/Object;" } : MethodName)) ∈ TT := tt_mem (tb2 (List.mem_of_getElem? (i := 46) rfl)) rfl
theorem w287 : (Cond.code ({ cls := "java/util/Arrays", name := "copyOf", desc := "([Ljava/lang/Object;I)[Ljava/lang/Object;" } : MethodName) prog_24_method_119_code (2 : Nat) (Option.some (FieldType.array (FieldType.object "java/lang/Object")))) ∈ TT := tt_mem (tb2 (List.mem_of_getElem? (i := 47) rfl)) rfl
theorem w288 : (Cond.methodLink "java/util/Arrays" (86 : Nat) ({ cls := "java/lang/Object", name := "getClass", desc := "()Ljava/lang/Class;" } : MethodName)) ∈ TT := tt_mem (tb2 (List.mem_of_getElem? (i := 48) rfl)) rfl
theorem w289 : (Cond.instanceMethod ({ cls := "java/lang/Object", name := "getClass", desc := "()Ljava/lang/Class;" } : MethodName)) ∈ TT := tt_mem (tb2 (List.mem_of_getElem? (i := 49) rfl)) rfl
theorem w290 : (Cond.sameMethod "java/lang/Object" "java/lang/Object" "getClass" "()Ljava/lang/Class;") ∈ TT := tt_mem (tb2 (List.mem_of_getElem? (i := 50) rfl)) rfl
theorem w291 : (Cond.selects "LockHouse" ({ cls := "java/lang/Object", name := "getClass", desc := "()Ljava/lang/Class;" } : MethodName) ({ cls := "java/lang/Object", name := "getClass", desc := "()Ljava/lang/Class;" } : MethodName)) ∈ TT := tt_mem (tb2 (List.mem_of_getElem? (i := 51) rfl)) rfl
theorem w292 : (Cond.selects "LockHouse$Card" ({ cls := "java/lang/Object", name := "getClass", desc := "()Ljava/lang/Class;" } : MethodName) ({ cls := "java/lang/Object", name := "getClass", desc := "()Ljava/lang/Class;" } : MethodName)) ∈ TT := tt_mem (tb2 (List.mem_of_getElem? (i := 52) rfl)) rfl
theorem w293 : (Cond.selects "LockHouse$Door" ({ cls := "java/lang/Object", name := "getClass", desc := "()Ljava/lang/Class;" } : MethodName) ({ cls := "java/lang/Object", name := "getClass", desc := "()Ljava/lang/Class;" } : MethodName)) ∈ TT := tt_mem (tb2 (List.mem_of_getElem? (i := 53) rfl)) rfl
theorem w294 : (Cond.selects "LockHouse$Entry" ({ cls := "java/lang/Object", name := "getClass", desc := "()Ljava/lang/Class;" } : MethodName) ({ cls := "java/lang/Object", name := "getClass", desc := "()Ljava/lang/Class;" } : MethodName)) ∈ TT := tt_mem (tb2 (List.mem_of_getElem? (i := 54) rfl)) rfl
theorem w295 : (Cond.selects "LockHouse$EntryList" ({ cls := "java/lang/Object", name := "getClass", desc := "()Ljava/lang/Class;" } : MethodName) ({ cls := "java/lang/Object", name := "getClass", desc := "()Ljava/lang/Class;" } : MethodName)) ∈ TT := tt_mem (tb2 (List.mem_of_getElem? (i := 55) rfl)) rfl
theorem w296 : (Cond.selects "LockHouse$Image" ({ cls := "java/lang/Object", name := "getClass", desc := "()Ljava/lang/Class;" } : MethodName) ({ cls := "java/lang/Object", name := "getClass", desc := "()Ljava/lang/Class;" } : MethodName)) ∈ TT := tt_mem (tb2 (List.mem_of_getElem? (i := 56) rfl)) rfl
theorem w297 : (Cond.selects "LockHouseModel" ({ cls := "java/lang/Object", name := "getClass", desc := "()Ljava/lang/Class;" } : MethodName) ({ cls := "java/lang/Object", name := "getClass", desc := "()Ljava/lang/Class;" } : MethodName)) ∈ TT := tt_mem (tb2 (List.mem_of_getElem? (i := 57) rfl)) rfl
theorem w298 : (Cond.selects "java/lang/IllegalArgumentException" ({ cls := "java/lang/Object", name := "getClass", desc := "()Ljava/lang/Class;" } : MethodName) ({ cls := "java/lang/Object", name := "getClass", desc := "()Ljava/lang/Class;" } : MethodName)) ∈ TT := tt_mem (tb2 (List.mem_of_getElem? (i := 58) rfl)) rfl
theorem w299 : (Cond.selects "java/lang/IllegalStateException" ({ cls := "java/lang/Object", name := "getClass", desc := "()Ljava/lang/Class;" } : MethodName) ({ cls := "java/lang/Object", name := "getClass", desc := "()Ljava/lang/Class;" } : MethodName)) ∈ TT := tt_mem (tb2 (List.mem_of_getElem? (i := 59) rfl)) rfl
theorem w300 : (Cond.selects "java/lang/IndexOutOfBoundsException" ({ cls := "java/lang/Object", name := "getClass", desc := "()Ljava/lang/Class;" } : MethodName) ({ cls := "java/lang/Object", name := "getClass", desc := "()Ljava/lang/Class;" } : MethodName)) ∈ TT := tt_mem (tb2 (List.mem_of_getElem? (i := 60) rfl)) rfl
theorem w301 : (Cond.selects "java/util/ArrayList" ({ cls := "java/lang/Object", name := "getClass", desc := "()Ljava/lang/Class;" } : MethodName) ({ cls := "java/lang/Object", name := "getClass", desc := "()Ljava/lang/Class;" } : MethodName)) ∈ TT := tt_mem (tb2 (List.mem_of_getElem? (i := 61) rfl)) rfl
theorem u302 : (Cond.native ({ cls := "java/lang/Object", name := "getClass", desc := "()Ljava/lang/Class;" } : MethodName)) ∈ lw_tbl := tb2 (List.mem_of_getElem? (i := 62) rfl)
theorem w303 : (Cond.methodLink "java/util/Arrays" (300 : Nat) ({ cls := "java/util/Arrays", name := "copyOf", desc := "([Ljava/lang/Object;ILjava/lang/Class;)[Ljava/lang/Object;" } : MethodName)) ∈ TT := tt_mem (tb2 (List.mem_of_getElem? (i := 63) rfl)) rfl
theorem w304 : (Cond.static ({ cls := "java/util/Arrays", name := "copyOf", desc := "([Ljava/lang/Object;ILjava/lang/Class;)[Ljava/lang/Object;" } : MethodName)) ∈ TT := tt_mem (tb2 (List.mem_of_getElem? (i := 64) rfl)) rfl
theorem w305 : (Cond.code ({ cls := "java/util/Arrays", name := "copyOf", desc := "([Ljava/lang/Object;ILjava/lang/Class;)[Ljava/lang/Object;" } : MethodName) prog_24_method_120_code (4 : Nat) (Option.some (FieldType.array (FieldType.object "java/lang/Object")))) ∈ TT := tt_mem (tb2 (List.mem_of_getElem? (i := 65) rfl)) rfl
theorem w306 : (Cond.classLink "java/util/Arrays" (110 : Nat) "[Ljava/lang/Object;") ∈ TT := tt_mem (tb2 (List.mem_of_getElem? (i := 66) rfl)) rfl
theorem u307 : (Cond.arrayOver (FieldType.object "java/lang/Object")) ∈ lw_tbl := tb2 (List.mem_of_getElem? (i := 67) rfl)
theorem w308 : (Cond.classLink "java/util/Arrays" (2 : Nat) "java/lang/Object") ∈ TT := tt_mem (tb2 (List.mem_of_getElem? (i := 68) rfl)) rfl
theorem w309 : (Cond.methodLink "java/util/Arrays" (304 : Nat) ({ cls := "java/lang/Math", name := "min", desc := "(II)I" } : MethodName)) ∈ TT := tt_mem (tb2 (List.mem_of_getElem? (i := 69) rfl)) rfl
theorem w310 : (Cond.static ({ cls := "java/lang/Math", name := "min", desc := "(II)I" } : MethodName)) ∈ TT := tt_mem (tb2 (List.mem_of_getElem? (i := 70) rfl)) rfl
theorem w311 : (Cond.code ({ cls := "java/lang/Math", name := "min", desc := "(II)I" } : MethodName) prog_16_method_69_code (2 : Nat) (Option.some FieldType.int)) ∈ TT := tt_mem (tb2 (List.mem_of_getElem? (i := 71) rfl)) rfl
theorem w312 : (Cond.methodLink "java/util/Arrays" (150 : Nat) ({ cls := "java/lang/System", name := "arraycopy", desc := "(Ljava/lang/Object;ILjava/lang/Object;II)V" } : MethodName)) ∈ TT := tt_mem (tb2 (List.mem_of_getElem? (i := 72) rfl)) rfl
theorem w313 : (Cond.static ({ cls := "java/lang/System", name := "arraycopy", desc := "(Ljava/lang/Object;ILjava/lang/Object;II)V" } : MethodName)) ∈ TT := tt_mem (tb2 (List.mem_of_getElem? (i := 73) rfl)) rfl
theorem u314 : (Cond.native ({ cls := "java/lang/System", name := "arraycopy", desc := "(Ljava/lang/Object;ILjava/lang/Object;II)V" } : MethodName)) ∈ lw_tbl := tb2 (List.mem_of_getElem? (i := 74) rfl)
theorem w315 : (Cond.methodLink "java/util/ArrayList" (79 : Nat) ({ cls := "java/lang/Math", name := "max", desc := "(II)I" } : MethodName)) ∈ TT := tt_mem (tb2 (List.mem_of_getElem? (i := 75) rfl)) rfl
theorem w316 : (Cond.classLink "java/util/ArrayList" (7 : Nat) "java/lang/Object") ∈ TT := tt_mem (tb2 (List.mem_of_getElem? (i := 76) rfl)) rfl
theorem w317 : (Cond.methodLink "LockHouseLaw" (92 : Nat) ({ cls := "LockHouseLaw", name := "revoke", desc := "(LLockHouse;I[J)I" } : MethodName)) ∈ TT := tt_mem (tb2 (List.mem_of_getElem? (i := 77) rfl)) rfl
theorem w318 : (Cond.static ({ cls := "LockHouseLaw", name := "revoke", desc := "(LLockHouse;I[J)I" } : MethodName)) ∈ TT := tt_mem (tb2 (List.mem_of_getElem? (i := 78) rfl)) rfl
theorem w319 : (Cond.codeWith ({ cls := "LockHouseLaw", name := "revoke", desc := "(LLockHouse;I[J)I" } : MethodName) method_4_code (4 : Nat) (Option.some FieldType.int) [((0 : Nat), (9 : Nat), (12 : Nat), (19 : Nat)), ((0 : Nat), (9 : Nat), (15 : Nat), (13 : Nat))]) ∈ TT := tt_mem (tb2 (List.mem_of_getElem? (i := 79) rfl)) rfl
theorem w320 : (Cond.classLink "LockHouseLaw" (19 : Nat) "java/lang/IndexOutOfBoundsException") ∈ TT := tt_mem (tb2 (List.mem_of_getElem? (i := 80) rfl)) rfl
theorem w321 : (Cond.methodLink "LockHouseLaw" (15 : Nat) ({ cls := "LockHouse", name := "revoke", desc := "(I)I" } : MethodName)) ∈ TT := tt_mem (tb2 (List.mem_of_getElem? (i := 81) rfl)) rfl
theorem w322 : (Cond.instanceMethod ({ cls := "LockHouse", name := "revoke", desc := "(I)I" } : MethodName)) ∈ TT := tt_mem (tb2 (List.mem_of_getElem? (i := 82) rfl)) rfl
theorem w323 : (Cond.selects "LockHouse" ({ cls := "LockHouse", name := "revoke", desc := "(I)I" } : MethodName) ({ cls := "LockHouse", name := "revoke", desc := "(I)I" } : MethodName)) ∈ TT := tt_mem (tb2 (List.mem_of_getElem? (i := 83) rfl)) rfl
theorem w324 : (Cond.code ({ cls := "LockHouse", name := "revoke", desc := "(I)I" } : MethodName) prog_1_method_4_code (3 : Nat) (Option.some FieldType.int)) ∈ TT := tt_mem (tb2 (List.mem_of_getElem? (i := 84) rfl)) rfl
theorem w325 : (Cond.methodLink "LockHouse" (68 : Nat) ({ cls := "LockHouse", name := "cardAt", desc := "(I)LLockHouse$Card;" } : MethodName)) ∈ TT := tt_mem (tb2 (List.mem_of_getElem? (i := 85) rfl)) rfl
theorem u326 : (Cond.privateMethod ({ cls := "LockHouse", name := "cardAt", desc := "(I)LLockHouse$Card;" } : MethodName)) ∈ lw_tbl := tb2 (List.mem_of_getElem? (i := 86) rfl)
theorem w327 : (Cond.instanceMethod ({ cls := "LockHouse", name := "cardAt", desc := "(I)LLockHouse$Card;" } : MethodName)) ∈ TT := tt_mem (tb2 (List.mem_of_getElem? (i := 87) rfl)) rfl
theorem w328 : (Cond.code ({ cls := "LockHouse", name := "cardAt", desc := "(I)LLockHouse$Card;" } : MethodName) prog_1_method_23_code (2 : Nat) (Option.some (FieldType.object "LockHouse$Card"))) ∈ TT := tt_mem (tb2 (List.mem_of_getElem? (i := 88) rfl)) rfl
theorem w329 : (Cond.methodLink "LockHouse" (192 : Nat) ({ cls := "LockHouse", name := "isCard", desc := "(I)Z" } : MethodName)) ∈ TT := tt_mem (tb2 (List.mem_of_getElem? (i := 89) rfl)) rfl
theorem u330 : (Cond.privateMethod ({ cls := "LockHouse", name := "isCard", desc := "(I)Z" } : MethodName)) ∈ lw_tbl := tb2 (List.mem_of_getElem? (i := 90) rfl)
theorem w331 : (Cond.instanceMethod ({ cls := "LockHouse", name := "isCard", desc := "(I)Z" } : MethodName)) ∈ TT := tt_mem (tb2 (List.mem_of_getElem? (i := 91) rfl)) rfl
theorem w332 : (Cond.code ({ cls := "LockHouse", name := "isCard", desc := "(I)Z" } : MethodName) prog_1_method_21_code (2 : Nat) (Option.some FieldType.boolean)) ∈ TT := tt_mem (tb2 (List.mem_of_getElem? (i := 92) rfl)) rfl
theorem w333 : (Cond.classLink "LockHouse" (127 : Nat) "java/lang/IndexOutOfBoundsException") ∈ TT := tt_mem (tb2 (List.mem_of_getElem? (i := 93) rfl)) rfl
theorem w334 : (Cond.instantiable "java/lang/IndexOutOfBoundsException" (6 : Nat)) ∈ TT := tt_mem (tb2 (List.mem_of_getElem? (i := 94) rfl)) rfl
theorem u335 : (Cond.castable "java/lang/IndexOutOfBoundsException" "java/lang/IndexOutOfBoundsException") ∈ lw_tbl := tb2 (List.mem_of_getElem? (i := 95) rfl)
theorem w336 : (Cond.selects "java/lang/IndexOutOfBoundsException" ({ cls := "java/lang/Throwable", name := "fillInStackTrace", desc := "(I)Ljava/lang/Throwable;" } : MethodName) ({ cls := "java/lang/Throwable", name := "fillInStackTrace", desc := "(I)Ljava/lang/Throwable;" } : MethodName)) ∈ TT := tt_mem (tb2 (List.mem_of_getElem? (i := 96) rfl)) rfl
theorem w337 : (Cond.lays "java/lang/IndexOutOfBoundsException" "java/lang/Throwable" "cause" "Ljava/lang/Throwable;") ∈ TT := tt_mem (tb2 (List.mem_of_getElem? (i := 97) rfl)) rfl
theorem w338 : (Cond.lays "java/lang/IndexOutOfBoundsException" "java/lang/Throwable" "stackTrace" "[Ljava/lang/StackTraceElement;") ∈ TT := tt_mem (tb2 (List.mem_of_getElem? (i := 98) rfl)) rfl
theorem w339 : (Cond.lays "java/lang/IndexOutOfBoundsException" "java/lang/Throwable" "suppressedExceptions" "Ljava/util/List;") ∈ TT := tt_mem (tb2 (List.mem_of_getElem? (i := 99) rfl)) rfl
theorem w340 : (Cond.lays "java/lang/IndexOutOfBoundsException" "java/lang/Throwable" "detailMessage" "Ljava/lang/String;") ∈ TT := tt_mem (tb2 (List.mem_of_getElem? (i := 100) rfl)) rfl
theorem w341 : (Cond.lays "java/lang/IndexOutOfBoundsException" "java/lang/Throwable" "backtrace" "Ljava/lang/Object;") ∈ TT := tt_mem (tb2 (List.mem_of_getElem? (i := 101) rfl)) rfl
theorem u342 : (Cond.stringRef "LockHouse" (207 : Nat) "no such card") ∈ lw_tbl := tb2 (List.mem_of_getElem? (i := 102) rfl)
theorem w343 : (Cond.methodLink "LockHouse" (131 : Nat) ({ cls := "java/lang/IndexOutOfBoundsException", name := "<init>", desc := "(Ljava/lang/String;)V" } : MethodName)) ∈ TT := tt_mem (tb2 (List.mem_of_getElem? (i := 103) rfl)) rfl
theorem w344 : (Cond.instanceMethod ({ cls := "java/lang/IndexOutOfBoundsException", name := "<init>", desc := "(Ljava/lang/String;)V" } : MethodName)) ∈ TT := tt_mem (tb2 (List.mem_of_getElem? (i := 104) rfl)) rfl
theorem w345 : (Cond.code ({ cls := "java/lang/IndexOutOfBoundsException", name := "<init>", desc := "(Ljava/lang/String;)V" } : MethodName) prog_14_method_2_code (2 : Nat) (Option.none : Option FieldType)) ∈ TT := tt_mem (tb2 (List.mem_of_getElem? (i := 105) rfl)) rfl
theorem w346 : (Cond.methodLink "java/lang/IndexOutOfBoundsException" (7 : Nat) ({ cls := "java/lang/RuntimeException", name := "<init>", desc := "(Ljava/lang/String;)V" } : MethodName)) ∈ TT := tt_mem (tb2 (List.mem_of_getElem? (i := 106) rfl)) rfl
theorem w347 : (Cond.lays "java/lang/IndexOutOfBoundsException" "java/lang/Throwable" "depth" "I") ∈ TT := tt_mem (tb2 (List.mem_of_getElem? (i := 107) rfl)) rfl
theorem w348 : (Cond.superclass "java/lang/IndexOutOfBoundsException" "java/lang/RuntimeException") ∈ TT := tt_mem (tb2 (List.mem_of_getElem? (i := 108) rfl)) rfl
theorem w349 : (Cond.methodLink "LockHouse" (203 : Nat) ({ cls := "java/util/ArrayList", name := "get", desc := "(I)Ljava/lang/Object;" } : MethodName)) ∈ TT := tt_mem (tb2 (List.mem_of_getElem? (i := 109) rfl)) rfl
theorem w350 : (Cond.instanceMethod ({ cls := "java/util/ArrayList", name := "get", desc := "(I)Ljava/lang/Object;" } : MethodName)) ∈ TT := tt_mem (tb2 (List.mem_of_getElem? (i := 110) rfl)) rfl
theorem w351 : (Cond.selects "java/util/ArrayList" ({ cls := "java/util/ArrayList", name := "get", desc := "(I)Ljava/lang/Object;" } : MethodName) ({ cls := "java/util/ArrayList", name := "get", desc := "(I)Ljava/lang/Object;" } : MethodName)) ∈ TT := tt_mem (tb2 (List.mem_of_getElem? (i := 111) rfl)) rfl
theorem w352 : (Cond.code ({ cls := "java/util/ArrayList", name := "get", desc := "(I)Ljava/lang/Object;" } : MethodName) prog_23_method_20_code (2 : Nat) (Option.some (FieldType.object "java/lang/Object"))) ∈ TT := tt_mem (tb2 (List.mem_of_getElem? (i := 112) rfl)) rfl
theorem w353 : (Cond.methodLink "java/util/ArrayList" (118 : Nat) ({ cls := "java/util/Objects", name := "checkIndex", desc := "(II)I" } : MethodName)) ∈ TT := tt_mem (tb2 (List.mem_of_getElem? (i := 113) rfl)) rfl
theorem w354 : (Cond.static ({ cls := "java/util/Objects", name := "checkIndex", desc := "(II)I" } : MethodName)) ∈ TT := tt_mem (tb2 (List.mem_of_getElem? (i := 114) rfl)) rfl
theorem w355 : (Cond.code ({ cls := "java/util/Objects", name := "checkIndex", desc := "(II)I" } : MethodName) prog_27_method_17_code (2 : Nat) (Option.some FieldType.int)) ∈ TT := tt_mem (tb2 (List.mem_of_getElem? (i := 115) rfl)) rfl
theorem w356 : (Cond.methodLink "java/util/Objects" (105 : Nat) ({ cls := "jdk/internal/util/Preconditions", name := "checkIndex", desc := "(IILjava/util/function/BiFunction;)I" } : MethodName)) ∈ TT := tt_mem (tb2 (List.mem_of_getElem? (i := 116) rfl)) rfl
theorem w357 : (Cond.static ({ cls := "jdk/internal/util/Preconditions", name := "checkIndex", desc := "(IILjava/util/function/BiFunction;)I" } : MethodName)) ∈ TT := tt_mem (tb2 (List.mem_of_getElem? (i := 117) rfl)) rfl
theorem w358 : (Cond.code ({ cls := "jdk/internal/util/Preconditions", name := "checkIndex", desc := "(IILjava/util/function/BiFunction;)I" } : MethodName) prog_31_method_11_code (3 : Nat) (Option.some FieldType.int)) ∈ TT := tt_mem (tb2 (List.mem_of_getElem? (i := 118) rfl)) rfl
theorem w359 : (Cond.methodLink "java/util/ArrayList" (123 : Nat) ({ cls := "java/util/ArrayList", name := "elementData", desc := "(I)Ljava/lang/Object;" } : MethodName)) ∈ TT := tt_mem (tb2 (List.mem_of_getElem? (i := 119) rfl)) rfl
theorem w360 : (Cond.instanceMethod ({ cls := "java/util/ArrayList", name := "elementData", desc := "(I)Ljava/lang/Object;" } : MethodName)) ∈ TT := tt_mem (tb2 (List.mem_of_getElem? (i := 120) rfl)) rfl
theorem w361 : (Cond.selects "java/util/ArrayList" ({ cls := "java/util/ArrayList", name := "elementData", desc := "(I)Ljava/lang/Object;" } : MethodName) ({ cls := "java/util/ArrayList", name := "elementData", desc := "(I)Ljava/lang/Object;" } : MethodName)) ∈ TT := tt_mem (tb2 (List.mem_of_getElem? (i := 121) rfl)) rfl
theorem w362 : (Cond.code ({ cls := "java/util/ArrayList", name := "elementData", desc := "(I)Ljava/lang/Object;" } : MethodName) prog_23_method_18_code (2 : Nat) (Option.some (FieldType.object "java/lang/Object"))) ∈ TT := tt_mem (tb2 (List.mem_of_getElem? (i := 122) rfl)) rfl
theorem u363 : (Cond.stringRef "LockHouse" (79 : Nat) "no more entries can be made") ∈ lw_tbl := tb2 (List.mem_of_getElem? (i := 123) rfl)
theorem w364 : (Cond.methodLink "LockHouse" (81 : Nat) ({ cls := "LockHouse$EntryList", name := "append", desc := "(I)I" } : MethodName)) ∈ TT := tt_mem (tb2 (List.mem_of_getElem? (i := 124) rfl)) rfl
theorem w365 : (Cond.instanceMethod ({ cls := "LockHouse$EntryList", name := "append", desc := "(I)I" } : MethodName)) ∈ TT := tt_mem (tb2 (List.mem_of_getElem? (i := 125) rfl)) rfl
theorem w366 : (Cond.selects "LockHouse$EntryList" ({ cls := "LockHouse$EntryList", name := "append", desc := "(I)I" } : MethodName) ({ cls := "LockHouse$EntryList", name := "append", desc := "(I)I" } : MethodName)) ∈ TT := tt_mem (tb2 (List.mem_of_getElem? (i := 126) rfl)) rfl
theorem w367 : (Cond.code ({ cls := "LockHouse$EntryList", name := "append", desc := "(I)I" } : MethodName) prog_5_method_3_code (2 : Nat) (Option.some FieldType.int)) ∈ TT := tt_mem (tb2 (List.mem_of_getElem? (i := 127) rfl)) rfl
theorem w368 : (Cond.classLink "LockHouse$EntryList" (22 : Nat) "LockHouse$Entry") ∈ TT := tt_mem (tb2 (List.mem_of_getElem? (i := 128) rfl)) rfl
theorem w369 : (Cond.instantiable "LockHouse$Entry" (2 : Nat)) ∈ TT := tt_mem (tb2 (List.mem_of_getElem? (i := 129) rfl)) rfl
theorem w370 : (Cond.methodLink "LockHouse$EntryList" (24 : Nat) ({ cls := "LockHouse$Entry", name := "<init>", desc := "(I)V" } : MethodName)) ∈ TT := tt_mem (tb2 (List.mem_of_getElem? (i := 130) rfl)) rfl
theorem w371 : (Cond.instanceMethod ({ cls := "LockHouse$Entry", name := "<init>", desc := "(I)V" } : MethodName)) ∈ TT := tt_mem (tb2 (List.mem_of_getElem? (i := 131) rfl)) rfl
theorem w372 : (Cond.code ({ cls := "LockHouse$Entry", name := "<init>", desc := "(I)V" } : MethodName) prog_4_method_1_code (2 : Nat) (Option.none : Option FieldType)) ∈ TT := tt_mem (tb2 (List.mem_of_getElem? (i := 132) rfl)) rfl
theorem w373 : (Cond.methodLink "LockHouse$Entry" (3 : Nat) ({ cls := "java/lang/Object", name := "<init>", desc := "()V" } : MethodName)) ∈ TT := tt_mem (tb2 (List.mem_of_getElem? (i := 133) rfl)) rfl
theorem w374 : (Cond.fieldLink "LockHouse$Entry" (15 : Nat) "LockHouse$Entry" "card" "I") ∈ TT := tt_mem (tb2 (List.mem_of_getElem? (i := 134) rfl)) rfl
theorem u375 : (Cond.fieldLinkNest "LockHouse$EntryList" (39 : Nat) "LockHouse$Entry" "card" "I" "LockHouse") ∈ lw_tbl := tb2 (List.mem_of_getElem? (i := 135) rfl)
theorem w376 : (Cond.fieldLink "LockHouse$Entry" (9 : Nat) "LockHouse$Entry" "atDoor" "[Z") ∈ TT := tt_mem (tb2 (List.mem_of_getElem? (i := 136) rfl)) rfl
theorem w377 : (Cond.laysFinal "LockHouse$Entry" "LockHouse$Entry" "card" "I") ∈ TT := tt_mem (tb2 (List.mem_of_getElem? (i := 137) rfl)) rfl
theorem w378 : (Cond.soleField "LockHouse$Entry" "card") ∈ TT := tt_mem (tb2 (List.mem_of_getElem? (i := 138) rfl)) rfl
theorem w379 : (Cond.laysFinal "LockHouse$Entry" "LockHouse$Entry" "atDoor" "[Z") ∈ TT := tt_mem (tb2 (List.mem_of_getElem? (i := 139) rfl)) rfl
theorem w380 : (Cond.soleField "LockHouse$Entry" "atDoor") ∈ TT := tt_mem (tb2 (List.mem_of_getElem? (i := 140) rfl)) rfl
theorem w381 : (Cond.superclass "LockHouse$Entry" "java/lang/Object") ∈ TT := tt_mem (tb2 (List.mem_of_getElem? (i := 141) rfl)) rfl
theorem w382 : (Cond.arrayClass FieldType.boolean) ∈ TT := tt_mem (tb2 (List.mem_of_getElem? (i := 142) rfl)) rfl
theorem w383 : (Cond.methodLink "LockHouse$EntryList" (27 : Nat) ({ cls := "java/util/ArrayList", name := "add", desc := "(Ljava/lang/Object;)Z" } : MethodName)) ∈ TT := tt_mem (tb2 (List.mem_of_getElem? (i := 143) rfl)) rfl
theorem w384 : (Cond.methodLink "LockHouseLaw" (100 : Nat) ({ cls := "LockHouseLaw", name := "gate", desc := "(LLockHouse;I)I" } : MethodName)) ∈ TT := tt_mem (tb2 (List.mem_of_getElem? (i := 144) rfl)) rfl
theorem w385 : (Cond.static ({ cls := "LockHouseLaw", name := "gate", desc := "(LLockHouse;I)I" } : MethodName)) ∈ TT := tt_mem (tb2 (List.mem_of_getElem? (i := 145) rfl)) rfl
theorem w386 : (Cond.codeWith ({ cls := "LockHouseLaw", name := "gate", desc := "(LLockHouse;I)I" } : MethodName) method_5_code (3 : Nat) (Option.some FieldType.int) [((0 : Nat), (5 : Nat), (8 : Nat), (19 : Nat))]) ∈ TT := tt_mem (tb2 (List.mem_of_getElem? (i := 146) rfl)) rfl
theorem w387 : (Cond.methodLink "LockHouseLaw" (21 : Nat) ({ cls := "LockHouse", name := "gate", desc := "(I)V" } : MethodName)) ∈ TT := tt_mem (tb2 (List.mem_of_getElem? (i := 147) rfl)) rfl
theorem w388 : (Cond.instanceMethod ({ cls := "LockHouse", name := "gate", desc := "(I)V" } : MethodName)) ∈ TT := tt_mem (tb2 (List.mem_of_getElem? (i := 148) rfl)) rfl
theorem w389 : (Cond.selects "LockHouse" ({ cls := "LockHouse", name := "gate", desc := "(I)V" } : MethodName) ({ cls := "LockHouse", name := "gate", desc := "(I)V" } : MethodName)) ∈ TT := tt_mem (tb2 (List.mem_of_getElem? (i := 149) rfl)) rfl
theorem w390 : (Cond.code ({ cls := "LockHouse", name := "gate", desc := "(I)V" } : MethodName) prog_1_method_6_code (6 : Nat) (Option.none : Option FieldType)) ∈ TT := tt_mem (tb2 (List.mem_of_getElem? (i := 150) rfl)) rfl
theorem w391 : (Cond.methodLink "LockHouse" (85 : Nat) ({ cls := "java/lang/Math", name := "min", desc := "(II)I" } : MethodName)) ∈ TT := tt_mem (tb2 (List.mem_of_getElem? (i := 151) rfl)) rfl
theorem w392 : (Cond.methodLink "LockHouse" (91 : Nat) ({ cls := "LockHouse$Card", name := "store", desc := "(IIILLockHouse$EntryList;)V" } : MethodName)) ∈ TT := tt_mem (tb2 (List.mem_of_getElem? (i := 152) rfl)) rfl
theorem w393 : (Cond.instanceMethod ({ cls := "LockHouse$Card", name := "store", desc := "(IIILLockHouse$EntryList;)V" } : MethodName)) ∈ TT := tt_mem (tb2 (List.mem_of_getElem? (i := 153) rfl)) rfl
theorem w394 : (Cond.selects "LockHouse$Card" ({ cls := "LockHouse$Card", name := "store", desc := "(IIILLockHouse$EntryList;)V" } : MethodName) ({ cls := "LockHouse$Card", name := "store", desc := "(IIILLockHouse$EntryList;)V" } : MethodName)) ∈ TT := tt_mem (tb2 (List.mem_of_getElem? (i := 154) rfl)) rfl
theorem w395 : (Cond.code ({ cls := "LockHouse$Card", name := "store", desc := "(IIILLockHouse$EntryList;)V" } : MethodName) prog_2_method_5_code (10 : Nat) (Option.none : Option FieldType)) ∈ TT := tt_mem (tb2 (List.mem_of_getElem? (i := 155) rfl)) rfl
theorem w396 : (Cond.methodLink "LockHouse$Card" (46 : Nat) ({ cls := "LockHouse$Card", name := "currentIndex", desc := "()I" } : MethodName)) ∈ TT := tt_mem (tb2 (List.mem_of_getElem? (i := 156) rfl)) rfl
theorem w397 : (Cond.instanceMethod ({ cls := "LockHouse$Card", name := "currentIndex", desc := "()I" } : MethodName)) ∈ TT := tt_mem (tb2 (List.mem_of_getElem? (i := 157) rfl)) rfl
theorem w398 : (Cond.selects "LockHouse$Card" ({ cls := "LockHouse$Card", name := "currentIndex", desc := "()I" } : MethodName) ({ cls := "LockHouse$Card", name := "currentIndex", desc := "()I" } : MethodName)) ∈ TT := tt_mem (tb2 (List.mem_of_getElem? (i := 158) rfl)) rfl
theorem w399 : (Cond.code ({ cls := "LockHouse$Card", name := "currentIndex", desc := "()I" } : MethodName) prog_2_method_3_code (2 : Nat) (Option.some FieldType.int)) ∈ TT := tt_mem (tb2 (List.mem_of_getElem? (i := 159) rfl)) rfl
theorem w400 : (Cond.methodLink "LockHouse$Card" (38 : Nat) ({ cls := "LockHouse$Image", name := "isWhole", desc := "()Z" } : MethodName)) ∈ TT := tt_mem (tb2 (List.mem_of_getElem? (i := 160) rfl)) rfl
theorem w401 : (Cond.instanceMethod ({ cls := "LockHouse$Image", name := "isWhole", desc := "()Z" } : MethodName)) ∈ TT := tt_mem (tb2 (List.mem_of_getElem? (i := 161) rfl)) rfl
theorem w402 : (Cond.selects "LockHouse$Image" ({ cls := "LockHouse$Image", name := "isWhole", desc := "()Z" } : MethodName) ({ cls := "LockHouse$Image", name := "isWhole", desc := "()Z" } : MethodName)) ∈ TT := tt_mem (tb2 (List.mem_of_getElem? (i := 162) rfl)) rfl
theorem w403 : (Cond.code ({ cls := "LockHouse$Image", name := "isWhole", desc := "()Z" } : MethodName) prog_6_method_4_code (1 : Nat) (Option.some FieldType.boolean)) ∈ TT := tt_mem (tb2 (List.mem_of_getElem? (i := 163) rfl)) rfl
theorem w404 : (Cond.methodLink "LockHouse$Image" (13 : Nat) ({ cls := "LockHouse$Image", name := "at", desc := "(I)I" } : MethodName)) ∈ TT := tt_mem (tb2 (List.mem_of_getElem? (i := 164) rfl)) rfl
theorem w405 : (Cond.instanceMethod ({ cls := "LockHouse$Image", name := "at", desc := "(I)I" } : MethodName)) ∈ TT := tt_mem (tb2 (List.mem_of_getElem? (i := 165) rfl)) rfl
theorem w406 : (Cond.selects "LockHouse$Image" ({ cls := "LockHouse$Image", name := "at", desc := "(I)I" } : MethodName) ({ cls := "LockHouse$Image", name := "at", desc := "(I)I" } : MethodName)) ∈ TT := tt_mem (tb2 (List.mem_of_getElem? (i := 166) rfl)) rfl
theorem w407 : (Cond.code ({ cls := "LockHouse$Image", name := "at", desc := "(I)I" } : MethodName) prog_6_method_2_code (2 : Nat) (Option.some FieldType.int)) ∈ TT := tt_mem (tb2 (List.mem_of_getElem? (i := 167) rfl)) rfl
theorem w408 : (Cond.methodLink "LockHouse$Card" (42 : Nat) ({ cls := "LockHouse$Image", name := "sequence", desc := "()I" } : MethodName)) ∈ TT := tt_mem (tb2 (List.mem_of_getElem? (i := 168) rfl)) rfl
theorem w409 : (Cond.instanceMethod ({ cls := "LockHouse$Image", name := "sequence", desc := "()I" } : MethodName)) ∈ TT := tt_mem (tb2 (List.mem_of_getElem? (i := 169) rfl)) rfl
theorem w410 : (Cond.selects "LockHouse$Image" ({ cls := "LockHouse$Image", name := "sequence", desc := "()I" } : MethodName) ({ cls := "LockHouse$Image", name := "sequence", desc := "()I" } : MethodName)) ∈ TT := tt_mem (tb2 (List.mem_of_getElem? (i := 170) rfl)) rfl
theorem w411 : (Cond.code ({ cls := "LockHouse$Image", name := "sequence", desc := "()I" } : MethodName) prog_6_method_5_code (1 : Nat) (Option.some FieldType.int)) ∈ TT := tt_mem (tb2 (List.mem_of_getElem? (i := 171) rfl)) rfl
theorem w412 : (Cond.methodLink "LockHouse$Card" (49 : Nat) ({ cls := "LockHouse$Card", name := "image", desc := "(I)LLockHouse$Image;" } : MethodName)) ∈ TT := tt_mem (tb2 (List.mem_of_getElem? (i := 172) rfl)) rfl
theorem w413 : (Cond.instanceMethod ({ cls := "LockHouse$Card", name := "image", desc := "(I)LLockHouse$Image;" } : MethodName)) ∈ TT := tt_mem (tb2 (List.mem_of_getElem? (i := 173) rfl)) rfl
theorem w414 : (Cond.selects "LockHouse$Card" ({ cls := "LockHouse$Card", name := "image", desc := "(I)LLockHouse$Image;" } : MethodName) ({ cls := "LockHouse$Card", name := "image", desc := "(I)LLockHouse$Image;" } : MethodName)) ∈ TT := tt_mem (tb2 (List.mem_of_getElem? (i := 174) rfl)) rfl
theorem w415 : (Cond.code ({ cls := "LockHouse$Card", name := "image", desc := "(I)LLockHouse$Image;" } : MethodName) prog_2_method_2_code (2 : Nat) (Option.some (FieldType.object "LockHouse$Image"))) ∈ TT := tt_mem (tb2 (List.mem_of_getElem? (i := 175) rfl)) rfl
theorem w416 : (Cond.methodLink "LockHouse$Card" (53 : Nat) ({ cls := "LockHouse$Image", name := "tells", desc := "(III)Z" } : MethodName)) ∈ TT := tt_mem (tb2 (List.mem_of_getElem? (i := 176) rfl)) rfl
theorem w417 : (Cond.instanceMethod ({ cls := "LockHouse$Image", name := "tells", desc := "(III)Z" } : MethodName)) ∈ TT := tt_mem (tb2 (List.mem_of_getElem? (i := 177) rfl)) rfl
theorem w418 : (Cond.selects "LockHouse$Image" ({ cls := "LockHouse$Image", name := "tells", desc := "(III)Z" } : MethodName) ({ cls := "LockHouse$Image", name := "tells", desc := "(III)Z" } : MethodName)) ∈ TT := tt_mem (tb2 (List.mem_of_getElem? (i := 178) rfl)) rfl
theorem w419 : (Cond.code ({ cls := "LockHouse$Image", name := "tells", desc := "(III)Z" } : MethodName) prog_6_method_7_code (4 : Nat) (Option.some FieldType.boolean)) ∈ TT := tt_mem (tb2 (List.mem_of_getElem? (i := 179) rfl)) rfl
theorem w420 : (Cond.methodLink "LockHouse$Image" (17 : Nat) ({ cls := "LockHouse$Image", name := "count", desc := "()I" } : MethodName)) ∈ TT := tt_mem (tb2 (List.mem_of_getElem? (i := 180) rfl)) rfl
theorem w421 : (Cond.instanceMethod ({ cls := "LockHouse$Image", name := "count", desc := "()I" } : MethodName)) ∈ TT := tt_mem (tb2 (List.mem_of_getElem? (i := 181) rfl)) rfl
theorem w422 : (Cond.selects "LockHouse$Image" ({ cls := "LockHouse$Image", name := "count", desc := "()I" } : MethodName) ({ cls := "LockHouse$Image", name := "count", desc := "()I" } : MethodName)) ∈ TT := tt_mem (tb2 (List.mem_of_getElem? (i := 182) rfl)) rfl
theorem w423 : (Cond.code ({ cls := "LockHouse$Image", name := "count", desc := "()I" } : MethodName) prog_6_method_6_code (1 : Nat) (Option.some FieldType.int)) ∈ TT := tt_mem (tb2 (List.mem_of_getElem? (i := 183) rfl)) rfl
theorem w424 : (Cond.methodLink "LockHouse$Card" (57 : Nat) ({ cls := "LockHouse$Card", name := "putNext", desc := "(LLockHouse$Image;II)V" } : MethodName)) ∈ TT := tt_mem (tb2 (List.mem_of_getElem? (i := 184) rfl)) rfl
theorem u425 : (Cond.privateMethod ({ cls := "LockHouse$Card", name := "putNext", desc := "(LLockHouse$Image;II)V" } : MethodName)) ∈ lw_tbl := tb2 (List.mem_of_getElem? (i := 185) rfl)
theorem w426 : (Cond.instanceMethod ({ cls := "LockHouse$Card", name := "putNext", desc := "(LLockHouse$Image;II)V" } : MethodName)) ∈ TT := tt_mem (tb2 (List.mem_of_getElem? (i := 186) rfl)) rfl
theorem w427 : (Cond.code ({ cls := "LockHouse$Card", name := "putNext", desc := "(LLockHouse$Image;II)V" } : MethodName) prog_2_method_6_code (4 : Nat) (Option.none : Option FieldType)) ∈ TT := tt_mem (tb2 (List.mem_of_getElem? (i := 187) rfl)) rfl
theorem w428 : (Cond.methodLink "LockHouse$Card" (67 : Nat) ({ cls := "LockHouse$Image", name := "put", desc := "(II)V" } : MethodName)) ∈ TT := tt_mem (tb2 (List.mem_of_getElem? (i := 188) rfl)) rfl
theorem w429 : (Cond.instanceMethod ({ cls := "LockHouse$Image", name := "put", desc := "(II)V" } : MethodName)) ∈ TT := tt_mem (tb2 (List.mem_of_getElem? (i := 189) rfl)) rfl
theorem w430 : (Cond.selects "LockHouse$Image" ({ cls := "LockHouse$Image", name := "put", desc := "(II)V" } : MethodName) ({ cls := "LockHouse$Image", name := "put", desc := "(II)V" } : MethodName)) ∈ TT := tt_mem (tb2 (List.mem_of_getElem? (i := 190) rfl)) rfl
theorem w431 : (Cond.code ({ cls := "LockHouse$Image", name := "put", desc := "(II)V" } : MethodName) prog_6_method_3_code (3 : Nat) (Option.none : Option FieldType)) ∈ TT := tt_mem (tb2 (List.mem_of_getElem? (i := 191) rfl)) rfl
theorem w432 : (Cond.methodLink "LockHouse$Card" (61 : Nat) ({ cls := "LockHouse$EntryList", name := "cardOf", desc := "(I)I" } : MethodName)) ∈ TT := tt_mem (tb2 (List.mem_of_getElem? (i := 192) rfl)) rfl
theorem w433 : (Cond.instanceMethod ({ cls := "LockHouse$EntryList", name := "cardOf", desc := "(I)I" } : MethodName)) ∈ TT := tt_mem (tb2 (List.mem_of_getElem? (i := 193) rfl)) rfl
theorem w434 : (Cond.selects "LockHouse$EntryList" ({ cls := "LockHouse$EntryList", name := "cardOf", desc := "(I)I" } : MethodName) ({ cls := "LockHouse$EntryList", name := "cardOf", desc := "(I)I" } : MethodName)) ∈ TT := tt_mem (tb2 (List.mem_of_getElem? (i := 194) rfl)) rfl
theorem w435 : (Cond.code ({ cls := "LockHouse$EntryList", name := "cardOf", desc := "(I)I" } : MethodName) prog_5_method_5_code (2 : Nat) (Option.some FieldType.int)) ∈ TT := tt_mem (tb2 (List.mem_of_getElem? (i := 195) rfl)) rfl
theorem w436 : (Cond.methodLink "LockHouse$EntryList" (31 : Nat) ({ cls := "LockHouse$EntryList", name := "holds", desc := "(I)Z" } : MethodName)) ∈ TT := tt_mem (tb2 (List.mem_of_getElem? (i := 196) rfl)) rfl
theorem u437 : (Cond.privateMethod ({ cls := "LockHouse$EntryList", name := "holds", desc := "(I)Z" } : MethodName)) ∈ lw_tbl := tb2 (List.mem_of_getElem? (i := 197) rfl)
theorem w438 : (Cond.instanceMethod ({ cls := "LockHouse$EntryList", name := "holds", desc := "(I)Z" } : MethodName)) ∈ TT := tt_mem (tb2 (List.mem_of_getElem? (i := 198) rfl)) rfl
theorem w439 : (Cond.code ({ cls := "LockHouse$EntryList", name := "holds", desc := "(I)Z" } : MethodName) prog_5_method_4_code (2 : Nat) (Option.some FieldType.boolean)) ∈ TT := tt_mem (tb2 (List.mem_of_getElem? (i := 199) rfl)) rfl
theorem w440 : (Cond.methodLink "LockHouse$EntryList" (35 : Nat) ({ cls := "java/util/ArrayList", name := "get", desc := "(I)Ljava/lang/Object;" } : MethodName)) ∈ TT := tt_mem (tb2 (List.mem_of_getElem? (i := 200) rfl)) rfl
theorem w441 : (Cond.methodLink "LockHouseLaw" (104 : Nat) ({ cls := "LockHouseLaw", name := "zoneOf", desc := "(LLockHouse;II)I" } : MethodName)) ∈ TT := tt_mem (tb2 (List.mem_of_getElem? (i := 201) rfl)) rfl
theorem w442 : (Cond.static ({ cls := "LockHouseLaw", name := "zoneOf", desc := "(LLockHouse;II)I" } : MethodName)) ∈ TT := tt_mem (tb2 (List.mem_of_getElem? (i := 202) rfl)) rfl
theorem w443 : (Cond.codeWith ({ cls := "LockHouseLaw", name := "zoneOf", desc := "(LLockHouse;II)I" } : MethodName) method_6_code (4 : Nat) (Option.some FieldType.int) [((0 : Nat), (6 : Nat), (9 : Nat), (19 : Nat)), ((0 : Nat), (6 : Nat), (12 : Nat), (29 : Nat)), ((0 : Nat), (6 : Nat), (15 : Nat), (13 : Nat))]) ∈ TT := tt_mem (tb2 (List.mem_of_getElem? (i := 203) rfl)) rfl
theorem w444 : (Cond.classLink "LockHouseLaw" (29 : Nat) "java/lang/IllegalArgumentException") ∈ TT := tt_mem (tb2 (List.mem_of_getElem? (i := 204) rfl)) rfl
theorem w445 : (Cond.methodLink "LockHouseLaw" (25 : Nat) ({ cls := "LockHouse", name := "zoneOf", desc := "(II)V" } : MethodName)) ∈ TT := tt_mem (tb2 (List.mem_of_getElem? (i := 205) rfl)) rfl
theorem w446 : (Cond.instanceMethod ({ cls := "LockHouse", name := "zoneOf", desc := "(II)V" } : MethodName)) ∈ TT := tt_mem (tb2 (List.mem_of_getElem? (i := 206) rfl)) rfl
theorem w447 : (Cond.selects "LockHouse" ({ cls := "LockHouse", name := "zoneOf", desc := "(II)V" } : MethodName) ({ cls := "LockHouse", name := "zoneOf", desc := "(II)V" } : MethodName)) ∈ TT := tt_mem (tb2 (List.mem_of_getElem? (i := 207) rfl)) rfl
theorem w448 : (Cond.code ({ cls := "LockHouse", name := "zoneOf", desc := "(II)V" } : MethodName) prog_1_method_7_code (4 : Nat) (Option.none : Option FieldType)) ∈ TT := tt_mem (tb2 (List.mem_of_getElem? (i := 208) rfl)) rfl
theorem w449 : (Cond.methodLink "LockHouse" (95 : Nat) ({ cls := "LockHouse", name := "doorAt", desc := "(I)LLockHouse$Door;" } : MethodName)) ∈ TT := tt_mem (tb2 (List.mem_of_getElem? (i := 209) rfl)) rfl
theorem u450 : (Cond.privateMethod ({ cls := "LockHouse", name := "doorAt", desc := "(I)LLockHouse$Door;" } : MethodName)) ∈ lw_tbl := tb2 (List.mem_of_getElem? (i := 210) rfl)
theorem w451 : (Cond.instanceMethod ({ cls := "LockHouse", name := "doorAt", desc := "(I)LLockHouse$Door;" } : MethodName)) ∈ TT := tt_mem (tb2 (List.mem_of_getElem? (i := 211) rfl)) rfl
theorem w452 : (Cond.code ({ cls := "LockHouse", name := "doorAt", desc := "(I)LLockHouse$Door;" } : MethodName) prog_1_method_24_code (2 : Nat) (Option.some (FieldType.object "LockHouse$Door"))) ∈ TT := tt_mem (tb2 (List.mem_of_getElem? (i := 212) rfl)) rfl
theorem w453 : (Cond.methodLink "LockHouse" (196 : Nat) ({ cls := "LockHouse", name := "isDoor", desc := "(I)Z" } : MethodName)) ∈ TT := tt_mem (tb2 (List.mem_of_getElem? (i := 213) rfl)) rfl
theorem u454 : (Cond.privateMethod ({ cls := "LockHouse", name := "isDoor", desc := "(I)Z" } : MethodName)) ∈ lw_tbl := tb2 (List.mem_of_getElem? (i := 214) rfl)
theorem w455 : (Cond.instanceMethod ({ cls := "LockHouse", name := "isDoor", desc := "(I)Z" } : MethodName)) ∈ TT := tt_mem (tb2 (List.mem_of_getElem? (i := 215) rfl)) rfl
theorem w456 : (Cond.code ({ cls := "LockHouse", name := "isDoor", desc := "(I)Z" } : MethodName) prog_1_method_22_code (2 : Nat) (Option.some FieldType.boolean)) ∈ TT := tt_mem (tb2 (List.mem_of_getElem? (i := 216) rfl)) rfl
theorem u457 : (Cond.stringRef "LockHouse" (209 : Nat) "no such door") ∈ lw_tbl := tb2 (List.mem_of_getElem? (i := 217) rfl)
theorem w458 : (Cond.classLink "LockHouse" (99 : Nat) "java/lang/IllegalArgumentException") ∈ TT := tt_mem (tb2 (List.mem_of_getElem? (i := 218) rfl)) rfl
theorem w459 : (Cond.instantiable "java/lang/IllegalArgumentException" (6 : Nat)) ∈ TT := tt_mem (tb2 (List.mem_of_getElem? (i := 219) rfl)) rfl
theorem u460 : (Cond.castable "java/lang/IllegalArgumentException" "java/lang/IllegalArgumentException") ∈ lw_tbl := tb2 (List.mem_of_getElem? (i := 220) rfl)
theorem w461 : (Cond.selects "java/lang/IllegalArgumentException" ({ cls := "java/lang/Throwable", name := "fillInStackTrace", desc := "(I)Ljava/lang/Throwable;" } : MethodName) ({ cls := "java/lang/Throwable", name := "fillInStackTrace", desc := "(I)Ljava/lang/Throwable;" } : MethodName)) ∈ TT := tt_mem (tb2 (List.mem_of_getElem? (i := 221) rfl)) rfl
theorem w462 : (Cond.lays "java/lang/IllegalArgumentException" "java/lang/Throwable" "cause" "Ljava/lang/Throwable;") ∈ TT := tt_mem (tb2 (List.mem_of_getElem? (i := 222) rfl)) rfl
theorem w463 : (Cond.lays "java/lang/IllegalArgumentException" "java/lang/Throwable" "stackTrace" "[Ljava/lang/StackTraceElement;") ∈ TT := tt_mem (tb2 (List.mem_of_getElem? (i := 223) rfl)) rfl
theorem w464 : (Cond.lays "java/lang/IllegalArgumentException" "java/lang/Throwable" "suppressedExceptions" "Ljava/util/List;") ∈ TT := tt_mem (tb2 (List.mem_of_getElem? (i := 224) rfl)) rfl
theorem w465 : (Cond.lays "java/lang/IllegalArgumentException" "java/lang/Throwable" "detailMessage" "Ljava/lang/String;") ∈ TT := tt_mem (tb2 (List.mem_of_getElem? (i := 225) rfl)) rfl
theorem w466 : (Cond.lays "java/lang/IllegalArgumentException" "java/lang/Throwable" "backtrace" "Ljava/lang/Object;") ∈ TT := tt_mem (tb2 (List.mem_of_getElem? (i := 226) rfl)) rfl
theorem u467 : (Cond.stringRef "LockHouse" (101 : Nat) "no such zone") ∈ lw_tbl := tb2 (List.mem_of_getElem? (i := 227) rfl)
theorem w468 : (Cond.methodLink "LockHouse" (103 : Nat) ({ cls := "java/lang/IllegalArgumentException", name := "<init>", desc := "(Ljava/lang/String;)V" } : MethodName)) ∈ TT := tt_mem (tb2 (List.mem_of_getElem? (i := 228) rfl)) rfl
theorem w469 : (Cond.instanceMethod ({ cls := "java/lang/IllegalArgumentException", name := "<init>", desc := "(Ljava/lang/String;)V" } : MethodName)) ∈ TT := tt_mem (tb2 (List.mem_of_getElem? (i := 229) rfl)) rfl
theorem w470 : (Cond.code ({ cls := "java/lang/IllegalArgumentException", name := "<init>", desc := "(Ljava/lang/String;)V" } : MethodName) prog_12_method_2_code (2 : Nat) (Option.none : Option FieldType)) ∈ TT := tt_mem (tb2 (List.mem_of_getElem? (i := 230) rfl)) rfl
theorem w471 : (Cond.methodLink "java/lang/IllegalArgumentException" (7 : Nat) ({ cls := "java/lang/RuntimeException", name := "<init>", desc := "(Ljava/lang/String;)V" } : MethodName)) ∈ TT := tt_mem (tb2 (List.mem_of_getElem? (i := 231) rfl)) rfl
theorem w472 : (Cond.lays "java/lang/IllegalArgumentException" "java/lang/Throwable" "depth" "I") ∈ TT := tt_mem (tb2 (List.mem_of_getElem? (i := 232) rfl)) rfl
theorem w473 : (Cond.superclass "java/lang/IllegalArgumentException" "java/lang/RuntimeException") ∈ TT := tt_mem (tb2 (List.mem_of_getElem? (i := 233) rfl)) rfl
theorem u474 : (Cond.stringRef "LockHouse" (108 : Nat) "a card was shown there already") ∈ lw_tbl := tb2 (List.mem_of_getElem? (i := 234) rfl)
theorem w475 : (Cond.methodLink "LockHouseLaw" (108 : Nat) ({ cls := "LockHouseLaw", name := "show", desc := "(LLockHouse;III[J)I" } : MethodName)) ∈ TT := tt_mem (tb2 (List.mem_of_getElem? (i := 235) rfl)) rfl
theorem w476 : (Cond.static ({ cls := "LockHouseLaw", name := "show", desc := "(LLockHouse;III[J)I" } : MethodName)) ∈ TT := tt_mem (tb2 (List.mem_of_getElem? (i := 236) rfl)) rfl
theorem w477 : (Cond.codeWith ({ cls := "LockHouseLaw", name := "show", desc := "(LLockHouse;III[J)I" } : MethodName) method_7_code (6 : Nat) (Option.some FieldType.int) [((0 : Nat), (12 : Nat), (15 : Nat), (19 : Nat))]) ∈ TT := tt_mem (tb2 (List.mem_of_getElem? (i := 237) rfl)) rfl
theorem w478 : (Cond.methodLink "LockHouseLaw" (31 : Nat) ({ cls := "LockHouse", name := "show", desc := "(III)I" } : MethodName)) ∈ TT := tt_mem (tb2 (List.mem_of_getElem? (i := 238) rfl)) rfl
theorem w479 : (Cond.instanceMethod ({ cls := "LockHouse", name := "show", desc := "(III)I" } : MethodName)) ∈ TT := tt_mem (tb2 (List.mem_of_getElem? (i := 239) rfl)) rfl
theorem w480 : (Cond.selects "LockHouse" ({ cls := "LockHouse", name := "show", desc := "(III)I" } : MethodName) ({ cls := "LockHouse", name := "show", desc := "(III)I" } : MethodName)) ∈ TT := tt_mem (tb3 (List.mem_of_getElem? (i := 0) rfl)) rfl
theorem w481 : (Cond.code ({ cls := "LockHouse", name := "show", desc := "(III)I" } : MethodName) prog_1_method_8_code (6 : Nat) (Option.some FieldType.int)) ∈ TT := tt_mem (tb3 (List.mem_of_getElem? (i := 1) rfl)) rfl
theorem w482 : (Cond.methodLink "LockHouse" (113 : Nat) ({ cls := "LockHouse", name := "present", desc := "(LLockHouse$Card;LLockHouse$Door;I)I" } : MethodName)) ∈ TT := tt_mem (tb3 (List.mem_of_getElem? (i := 2) rfl)) rfl
theorem u483 : (Cond.privateMethod ({ cls := "LockHouse", name := "present", desc := "(LLockHouse$Card;LLockHouse$Door;I)I" } : MethodName)) ∈ lw_tbl := tb3 (List.mem_of_getElem? (i := 3) rfl)
theorem w484 : (Cond.instanceMethod ({ cls := "LockHouse", name := "present", desc := "(LLockHouse$Card;LLockHouse$Door;I)I" } : MethodName)) ∈ TT := tt_mem (tb3 (List.mem_of_getElem? (i := 4) rfl)) rfl
theorem w485 : (Cond.code ({ cls := "LockHouse", name := "present", desc := "(LLockHouse$Card;LLockHouse$Door;I)I" } : MethodName) prog_1_method_25_code (5 : Nat) (Option.some FieldType.int)) ∈ TT := tt_mem (tb3 (List.mem_of_getElem? (i := 5) rfl)) rfl
theorem w486 : (Cond.methodLink "LockHouse" (142 : Nat) ({ cls := "LockHouse$Card", name := "current", desc := "()LLockHouse$Image;" } : MethodName)) ∈ TT := tt_mem (tb3 (List.mem_of_getElem? (i := 6) rfl)) rfl
theorem w487 : (Cond.instanceMethod ({ cls := "LockHouse$Card", name := "current", desc := "()LLockHouse$Image;" } : MethodName)) ∈ TT := tt_mem (tb3 (List.mem_of_getElem? (i := 7) rfl)) rfl
theorem w488 : (Cond.selects "LockHouse$Card" ({ cls := "LockHouse$Card", name := "current", desc := "()LLockHouse$Image;" } : MethodName) ({ cls := "LockHouse$Card", name := "current", desc := "()LLockHouse$Image;" } : MethodName)) ∈ TT := tt_mem (tb3 (List.mem_of_getElem? (i := 8) rfl)) rfl
theorem w489 : (Cond.code ({ cls := "LockHouse$Card", name := "current", desc := "()LLockHouse$Image;" } : MethodName) prog_2_method_4_code (1 : Nat) (Option.some (FieldType.object "LockHouse$Image"))) ∈ TT := tt_mem (tb3 (List.mem_of_getElem? (i := 9) rfl)) rfl
theorem w490 : (Cond.methodLink "LockHouse" (211 : Nat) ({ cls := "LockHouse$Door", name := "take", desc := "(LLockHouse$Image;LLockHouse$EntryList;)V" } : MethodName)) ∈ TT := tt_mem (tb3 (List.mem_of_getElem? (i := 10) rfl)) rfl
theorem w491 : (Cond.instanceMethod ({ cls := "LockHouse$Door", name := "take", desc := "(LLockHouse$Image;LLockHouse$EntryList;)V" } : MethodName)) ∈ TT := tt_mem (tb3 (List.mem_of_getElem? (i := 11) rfl)) rfl
theorem w492 : (Cond.selects "LockHouse$Door" ({ cls := "LockHouse$Door", name := "take", desc := "(LLockHouse$Image;LLockHouse$EntryList;)V" } : MethodName) ({ cls := "LockHouse$Door", name := "take", desc := "(LLockHouse$Image;LLockHouse$EntryList;)V" } : MethodName)) ∈ TT := tt_mem (tb3 (List.mem_of_getElem? (i := 12) rfl)) rfl
theorem w493 : (Cond.code ({ cls := "LockHouse$Door", name := "take", desc := "(LLockHouse$Image;LLockHouse$EntryList;)V" } : MethodName) prog_3_method_3_code (6 : Nat) (Option.none : Option FieldType)) ∈ TT := tt_mem (tb3 (List.mem_of_getElem? (i := 13) rfl)) rfl
theorem w494 : (Cond.methodLink "LockHouse$Door" (36 : Nat) ({ cls := "LockHouse$Image", name := "at", desc := "(I)I" } : MethodName)) ∈ TT := tt_mem (tb3 (List.mem_of_getElem? (i := 14) rfl)) rfl
theorem w495 : (Cond.methodLink "LockHouse$Door" (40 : Nat) ({ cls := "LockHouse$Image", name := "count", desc := "()I" } : MethodName)) ∈ TT := tt_mem (tb3 (List.mem_of_getElem? (i := 15) rfl)) rfl
theorem w496 : (Cond.methodLink "LockHouse$Door" (44 : Nat) ({ cls := "LockHouse$EntryList", name := "bringTo", desc := "(II)V" } : MethodName)) ∈ TT := tt_mem (tb3 (List.mem_of_getElem? (i := 16) rfl)) rfl
theorem w497 : (Cond.instanceMethod ({ cls := "LockHouse$EntryList", name := "bringTo", desc := "(II)V" } : MethodName)) ∈ TT := tt_mem (tb3 (List.mem_of_getElem? (i := 17) rfl)) rfl
theorem w498 : (Cond.selects "LockHouse$EntryList" ({ cls := "LockHouse$EntryList", name := "bringTo", desc := "(II)V" } : MethodName) ({ cls := "LockHouse$EntryList", name := "bringTo", desc := "(II)V" } : MethodName)) ∈ TT := tt_mem (tb3 (List.mem_of_getElem? (i := 18) rfl)) rfl
theorem w499 : (Cond.code ({ cls := "LockHouse$EntryList", name := "bringTo", desc := "(II)V" } : MethodName) prog_5_method_7_code (3 : Nat) (Option.none : Option FieldType)) ∈ TT := tt_mem (tb3 (List.mem_of_getElem? (i := 19) rfl)) rfl
theorem w500 : (Cond.methodLink "LockHouse$EntryList" (46 : Nat) ({ cls := "LockHouse$Entry", name := "bringTo", desc := "(I)V" } : MethodName)) ∈ TT := tt_mem (tb3 (List.mem_of_getElem? (i := 20) rfl)) rfl
theorem w501 : (Cond.instanceMethod ({ cls := "LockHouse$Entry", name := "bringTo", desc := "(I)V" } : MethodName)) ∈ TT := tt_mem (tb3 (List.mem_of_getElem? (i := 21) rfl)) rfl
theorem w502 : (Cond.selects "LockHouse$Entry" ({ cls := "LockHouse$Entry", name := "bringTo", desc := "(I)V" } : MethodName) ({ cls := "LockHouse$Entry", name := "bringTo", desc := "(I)V" } : MethodName)) ∈ TT := tt_mem (tb3 (List.mem_of_getElem? (i := 22) rfl)) rfl
theorem w503 : (Cond.code ({ cls := "LockHouse$Entry", name := "bringTo", desc := "(I)V" } : MethodName) prog_4_method_3_code (2 : Nat) (Option.none : Option FieldType)) ∈ TT := tt_mem (tb3 (List.mem_of_getElem? (i := 23) rfl)) rfl
theorem w504 : (Cond.methodLink "LockHouse$Door" (48 : Nat) ({ cls := "java/lang/Math", name := "max", desc := "(II)I" } : MethodName)) ∈ TT := tt_mem (tb3 (List.mem_of_getElem? (i := 24) rfl)) rfl
theorem w505 : (Cond.methodLink "LockHouse" (215 : Nat) ({ cls := "LockHouse$Door", name := "judge", desc := "(LLockHouse$Card;ILLockHouse$EntryList;)I" } : MethodName)) ∈ TT := tt_mem (tb3 (List.mem_of_getElem? (i := 25) rfl)) rfl
theorem w506 : (Cond.instanceMethod ({ cls := "LockHouse$Door", name := "judge", desc := "(LLockHouse$Card;ILLockHouse$EntryList;)I" } : MethodName)) ∈ TT := tt_mem (tb3 (List.mem_of_getElem? (i := 26) rfl)) rfl
theorem w507 : (Cond.selects "LockHouse$Door" ({ cls := "LockHouse$Door", name := "judge", desc := "(LLockHouse$Card;ILLockHouse$EntryList;)I" } : MethodName) ({ cls := "LockHouse$Door", name := "judge", desc := "(LLockHouse$Card;ILLockHouse$EntryList;)I" } : MethodName)) ∈ TT := tt_mem (tb3 (List.mem_of_getElem? (i := 27) rfl)) rfl
theorem w508 : (Cond.code ({ cls := "LockHouse$Door", name := "judge", desc := "(LLockHouse$Card;ILLockHouse$EntryList;)I" } : MethodName) prog_3_method_4_code (4 : Nat) (Option.some FieldType.int)) ∈ TT := tt_mem (tb3 (List.mem_of_getElem? (i := 28) rfl)) rfl
theorem w509 : (Cond.methodLink "LockHouse$Door" (59 : Nat) ({ cls := "LockHouse$Door", name := "has", desc := "(ILLockHouse$EntryList;)Z" } : MethodName)) ∈ TT := tt_mem (tb3 (List.mem_of_getElem? (i := 29) rfl)) rfl
theorem w510 : (Cond.instanceMethod ({ cls := "LockHouse$Door", name := "has", desc := "(ILLockHouse$EntryList;)Z" } : MethodName)) ∈ TT := tt_mem (tb3 (List.mem_of_getElem? (i := 30) rfl)) rfl
theorem w511 : (Cond.selects "LockHouse$Door" ({ cls := "LockHouse$Door", name := "has", desc := "(ILLockHouse$EntryList;)Z" } : MethodName) ({ cls := "LockHouse$Door", name := "has", desc := "(ILLockHouse$EntryList;)Z" } : MethodName)) ∈ TT := tt_mem (tb3 (List.mem_of_getElem? (i := 31) rfl)) rfl
theorem w512 : (Cond.code ({ cls := "LockHouse$Door", name := "has", desc := "(ILLockHouse$EntryList;)Z" } : MethodName) prog_3_method_2_code (3 : Nat) (Option.some FieldType.boolean)) ∈ TT := tt_mem (tb3 (List.mem_of_getElem? (i := 32) rfl)) rfl
theorem w513 : (Cond.methodLink "LockHouse$Door" (28 : Nat) ({ cls := "LockHouse$EntryList", name := "isAt", desc := "(II)Z" } : MethodName)) ∈ TT := tt_mem (tb3 (List.mem_of_getElem? (i := 33) rfl)) rfl
theorem w514 : (Cond.instanceMethod ({ cls := "LockHouse$EntryList", name := "isAt", desc := "(II)Z" } : MethodName)) ∈ TT := tt_mem (tb3 (List.mem_of_getElem? (i := 34) rfl)) rfl
theorem w515 : (Cond.selects "LockHouse$EntryList" ({ cls := "LockHouse$EntryList", name := "isAt", desc := "(II)Z" } : MethodName) ({ cls := "LockHouse$EntryList", name := "isAt", desc := "(II)Z" } : MethodName)) ∈ TT := tt_mem (tb3 (List.mem_of_getElem? (i := 35) rfl)) rfl
theorem w516 : (Cond.code ({ cls := "LockHouse$EntryList", name := "isAt", desc := "(II)Z" } : MethodName) prog_5_method_6_code (3 : Nat) (Option.some FieldType.boolean)) ∈ TT := tt_mem (tb3 (List.mem_of_getElem? (i := 36) rfl)) rfl
theorem w517 : (Cond.methodLink "LockHouse$EntryList" (43 : Nat) ({ cls := "LockHouse$Entry", name := "isAt", desc := "(I)Z" } : MethodName)) ∈ TT := tt_mem (tb3 (List.mem_of_getElem? (i := 37) rfl)) rfl
theorem w518 : (Cond.instanceMethod ({ cls := "LockHouse$Entry", name := "isAt", desc := "(I)Z" } : MethodName)) ∈ TT := tt_mem (tb3 (List.mem_of_getElem? (i := 38) rfl)) rfl
theorem w519 : (Cond.selects "LockHouse$Entry" ({ cls := "LockHouse$Entry", name := "isAt", desc := "(I)Z" } : MethodName) ({ cls := "LockHouse$Entry", name := "isAt", desc := "(I)Z" } : MethodName)) ∈ TT := tt_mem (tb3 (List.mem_of_getElem? (i := 39) rfl)) rfl
theorem w520 : (Cond.code ({ cls := "LockHouse$Entry", name := "isAt", desc := "(I)Z" } : MethodName) prog_4_method_2_code (2 : Nat) (Option.some FieldType.boolean)) ∈ TT := tt_mem (tb3 (List.mem_of_getElem? (i := 40) rfl)) rfl
theorem w521 : (Cond.methodLink "LockHouse$Door" (66 : Nat) ({ cls := "LockHouse$Card", name := "opens", desc := "(I)Z" } : MethodName)) ∈ TT := tt_mem (tb3 (List.mem_of_getElem? (i := 41) rfl)) rfl
theorem w522 : (Cond.instanceMethod ({ cls := "LockHouse$Card", name := "opens", desc := "(I)Z" } : MethodName)) ∈ TT := tt_mem (tb3 (List.mem_of_getElem? (i := 42) rfl)) rfl
theorem w523 : (Cond.selects "LockHouse$Card" ({ cls := "LockHouse$Card", name := "opens", desc := "(I)Z" } : MethodName) ({ cls := "LockHouse$Card", name := "opens", desc := "(I)Z" } : MethodName)) ∈ TT := tt_mem (tb3 (List.mem_of_getElem? (i := 43) rfl)) rfl
theorem w524 : (Cond.code ({ cls := "LockHouse$Card", name := "opens", desc := "(I)Z" } : MethodName) prog_2_method_7_code (2 : Nat) (Option.some FieldType.boolean)) ∈ TT := tt_mem (tb3 (List.mem_of_getElem? (i := 44) rfl)) rfl
theorem w525 : (Cond.methodLink "LockHouse" (219 : Nat) ({ cls := "LockHouse$Door", name := "pass", desc := "(LLockHouse$Card;LLockHouse$EntryList;)V" } : MethodName)) ∈ TT := tt_mem (tb3 (List.mem_of_getElem? (i := 45) rfl)) rfl
theorem w526 : (Cond.instanceMethod ({ cls := "LockHouse$Door", name := "pass", desc := "(LLockHouse$Card;LLockHouse$EntryList;)V" } : MethodName)) ∈ TT := tt_mem (tb3 (List.mem_of_getElem? (i := 46) rfl)) rfl
theorem w527 : (Cond.selects "LockHouse$Door" ({ cls := "LockHouse$Door", name := "pass", desc := "(LLockHouse$Card;LLockHouse$EntryList;)V" } : MethodName) ({ cls := "LockHouse$Door", name := "pass", desc := "(LLockHouse$Card;LLockHouse$EntryList;)V" } : MethodName)) ∈ TT := tt_mem (tb3 (List.mem_of_getElem? (i := 47) rfl)) rfl
theorem w528 : (Cond.code ({ cls := "LockHouse$Door", name := "pass", desc := "(LLockHouse$Card;LLockHouse$EntryList;)V" } : MethodName) prog_3_method_5_code (4 : Nat) (Option.none : Option FieldType)) ∈ TT := tt_mem (tb3 (List.mem_of_getElem? (i := 48) rfl)) rfl
theorem w529 : (Cond.methodLink "LockHouse$Door" (70 : Nat) ({ cls := "LockHouse$Card", name := "current", desc := "()LLockHouse$Image;" } : MethodName)) ∈ TT := tt_mem (tb3 (List.mem_of_getElem? (i := 49) rfl)) rfl
theorem w530 : (Cond.methodLink "LockHouse$Door" (74 : Nat) ({ cls := "LockHouse$Card", name := "store", desc := "(IIILLockHouse$EntryList;)V" } : MethodName)) ∈ TT := tt_mem (tb3 (List.mem_of_getElem? (i := 50) rfl)) rfl
theorem w531 : (Cond.methodLink "LockHouseLaw" (112 : Nat) ({ cls := "LockHouseLaw", name := "tear", desc := "(LLockHouse;II)I" } : MethodName)) ∈ TT := tt_mem (tb3 (List.mem_of_getElem? (i := 51) rfl)) rfl
theorem w532 : (Cond.static ({ cls := "LockHouseLaw", name := "tear", desc := "(LLockHouse;II)I" } : MethodName)) ∈ TT := tt_mem (tb3 (List.mem_of_getElem? (i := 52) rfl)) rfl
theorem w533 : (Cond.codeWith ({ cls := "LockHouseLaw", name := "tear", desc := "(LLockHouse;II)I" } : MethodName) method_8_code (4 : Nat) (Option.some FieldType.int) [((0 : Nat), (6 : Nat), (9 : Nat), (19 : Nat)), ((0 : Nat), (6 : Nat), (12 : Nat), (29 : Nat))]) ∈ TT := tt_mem (tb3 (List.mem_of_getElem? (i := 53) rfl)) rfl
theorem w534 : (Cond.methodLink "LockHouseLaw" (35 : Nat) ({ cls := "LockHouse", name := "tear", desc := "(II)V" } : MethodName)) ∈ TT := tt_mem (tb3 (List.mem_of_getElem? (i := 54) rfl)) rfl
theorem w535 : (Cond.instanceMethod ({ cls := "LockHouse", name := "tear", desc := "(II)V" } : MethodName)) ∈ TT := tt_mem (tb3 (List.mem_of_getElem? (i := 55) rfl)) rfl
theorem w536 : (Cond.selects "LockHouse" ({ cls := "LockHouse", name := "tear", desc := "(II)V" } : MethodName) ({ cls := "LockHouse", name := "tear", desc := "(II)V" } : MethodName)) ∈ TT := tt_mem (tb3 (List.mem_of_getElem? (i := 56) rfl)) rfl
theorem w537 : (Cond.code ({ cls := "LockHouse", name := "tear", desc := "(II)V" } : MethodName) prog_1_method_9_code (4 : Nat) (Option.none : Option FieldType)) ∈ TT := tt_mem (tb3 (List.mem_of_getElem? (i := 57) rfl)) rfl
theorem u538 : (Cond.stringRef "LockHouse" (117 : Nat) "no such number of words") ∈ lw_tbl := tb3 (List.mem_of_getElem? (i := 58) rfl)
theorem w539 : (Cond.methodLink "LockHouseLaw" (115 : Nat) ({ cls := "LockHouseLaw", name := "written", desc := "(LLockHouse;I[J)I" } : MethodName)) ∈ TT := tt_mem (tb3 (List.mem_of_getElem? (i := 59) rfl)) rfl
theorem w540 : (Cond.static ({ cls := "LockHouseLaw", name := "written", desc := "(LLockHouse;I[J)I" } : MethodName)) ∈ TT := tt_mem (tb3 (List.mem_of_getElem? (i := 60) rfl)) rfl
theorem w541 : (Cond.codeWith ({ cls := "LockHouseLaw", name := "written", desc := "(LLockHouse;I[J)I" } : MethodName) method_9_code (4 : Nat) (Option.some FieldType.int) [((0 : Nat), (9 : Nat), (12 : Nat), (19 : Nat))]) ∈ TT := tt_mem (tb3 (List.mem_of_getElem? (i := 61) rfl)) rfl
theorem w542 : (Cond.methodLink "LockHouseLaw" (38 : Nat) ({ cls := "LockHouse", name := "written", desc := "(I)I" } : MethodName)) ∈ TT := tt_mem (tb3 (List.mem_of_getElem? (i := 62) rfl)) rfl
theorem w543 : (Cond.instanceMethod ({ cls := "LockHouse", name := "written", desc := "(I)I" } : MethodName)) ∈ TT := tt_mem (tb3 (List.mem_of_getElem? (i := 63) rfl)) rfl
theorem w544 : (Cond.selects "LockHouse" ({ cls := "LockHouse", name := "written", desc := "(I)I" } : MethodName) ({ cls := "LockHouse", name := "written", desc := "(I)I" } : MethodName)) ∈ TT := tt_mem (tb3 (List.mem_of_getElem? (i := 64) rfl)) rfl
theorem w545 : (Cond.code ({ cls := "LockHouse", name := "written", desc := "(I)I" } : MethodName) prog_1_method_10_code (2 : Nat) (Option.some FieldType.int)) ∈ TT := tt_mem (tb3 (List.mem_of_getElem? (i := 65) rfl)) rfl
theorem w546 : (Cond.methodLink "LockHouseLaw" (118 : Nat) ({ cls := "LockHouseLaw", name := "word", desc := "(LLockHouse;III[J)I" } : MethodName)) ∈ TT := tt_mem (tb3 (List.mem_of_getElem? (i := 66) rfl)) rfl
theorem w547 : (Cond.static ({ cls := "LockHouseLaw", name := "word", desc := "(LLockHouse;III[J)I" } : MethodName)) ∈ TT := tt_mem (tb3 (List.mem_of_getElem? (i := 67) rfl)) rfl
theorem w548 : (Cond.codeWith ({ cls := "LockHouseLaw", name := "word", desc := "(LLockHouse;III[J)I" } : MethodName) method_10_code (6 : Nat) (Option.some FieldType.int) [((0 : Nat), (12 : Nat), (15 : Nat), (19 : Nat))]) ∈ TT := tt_mem (tb3 (List.mem_of_getElem? (i := 68) rfl)) rfl
theorem w549 : (Cond.methodLink "LockHouseLaw" (41 : Nat) ({ cls := "LockHouse", name := "word", desc := "(III)I" } : MethodName)) ∈ TT := tt_mem (tb3 (List.mem_of_getElem? (i := 69) rfl)) rfl
theorem w550 : (Cond.instanceMethod ({ cls := "LockHouse", name := "word", desc := "(III)I" } : MethodName)) ∈ TT := tt_mem (tb3 (List.mem_of_getElem? (i := 70) rfl)) rfl
theorem w551 : (Cond.selects "LockHouse" ({ cls := "LockHouse", name := "word", desc := "(III)I" } : MethodName) ({ cls := "LockHouse", name := "word", desc := "(III)I" } : MethodName)) ∈ TT := tt_mem (tb3 (List.mem_of_getElem? (i := 71) rfl)) rfl
theorem w552 : (Cond.code ({ cls := "LockHouse", name := "word", desc := "(III)I" } : MethodName) prog_1_method_11_code (5 : Nat) (Option.some FieldType.int)) ∈ TT := tt_mem (tb3 (List.mem_of_getElem? (i := 72) rfl)) rfl
theorem u553 : (Cond.stringRef "LockHouse" (129 : Nat) "no such word") ∈ lw_tbl := tb3 (List.mem_of_getElem? (i := 73) rfl)
theorem w554 : (Cond.methodLink "LockHouse" (132 : Nat) ({ cls := "LockHouse$Card", name := "image", desc := "(I)LLockHouse$Image;" } : MethodName)) ∈ TT := tt_mem (tb3 (List.mem_of_getElem? (i := 74) rfl)) rfl
theorem w555 : (Cond.methodLink "LockHouse" (136 : Nat) ({ cls := "LockHouse$Image", name := "at", desc := "(I)I" } : MethodName)) ∈ TT := tt_mem (tb3 (List.mem_of_getElem? (i := 75) rfl)) rfl
theorem w556 : (Cond.methodLink "LockHouseLaw" (121 : Nat) ({ cls := "LockHouseLaw", name := "carries", desc := "(LLockHouse;II[J)I" } : MethodName)) ∈ TT := tt_mem (tb3 (List.mem_of_getElem? (i := 76) rfl)) rfl
theorem w557 : (Cond.static ({ cls := "LockHouseLaw", name := "carries", desc := "(LLockHouse;II[J)I" } : MethodName)) ∈ TT := tt_mem (tb3 (List.mem_of_getElem? (i := 77) rfl)) rfl
theorem w558 : (Cond.codeWith ({ cls := "LockHouseLaw", name := "carries", desc := "(LLockHouse;II[J)I" } : MethodName) method_11_code (5 : Nat) (Option.some FieldType.int) [((0 : Nat), (10 : Nat), (13 : Nat), (19 : Nat)), ((0 : Nat), (10 : Nat), (17 : Nat), (29 : Nat))]) ∈ TT := tt_mem (tb3 (List.mem_of_getElem? (i := 78) rfl)) rfl
theorem w559 : (Cond.methodLink "LockHouseLaw" (44 : Nat) ({ cls := "LockHouse", name := "carries", desc := "(II)I" } : MethodName)) ∈ TT := tt_mem (tb3 (List.mem_of_getElem? (i := 79) rfl)) rfl
theorem w560 : (Cond.instanceMethod ({ cls := "LockHouse", name := "carries", desc := "(II)I" } : MethodName)) ∈ TT := tt_mem (tb3 (List.mem_of_getElem? (i := 80) rfl)) rfl
theorem w561 : (Cond.selects "LockHouse" ({ cls := "LockHouse", name := "carries", desc := "(II)I" } : MethodName) ({ cls := "LockHouse", name := "carries", desc := "(II)I" } : MethodName)) ∈ TT := tt_mem (tb3 (List.mem_of_getElem? (i := 81) rfl)) rfl
theorem w562 : (Cond.code ({ cls := "LockHouse", name := "carries", desc := "(II)I" } : MethodName) prog_1_method_12_code (4 : Nat) (Option.some FieldType.int)) ∈ TT := tt_mem (tb3 (List.mem_of_getElem? (i := 82) rfl)) rfl
theorem w563 : (Cond.methodLink "LockHouse" (139 : Nat) ({ cls := "LockHouse$Card", name := "currentIndex", desc := "()I" } : MethodName)) ∈ TT := tt_mem (tb3 (List.mem_of_getElem? (i := 83) rfl)) rfl
theorem w564 : (Cond.methodLink "LockHouse" (146 : Nat) ({ cls := "LockHouse$Image", name := "count", desc := "()I" } : MethodName)) ∈ TT := tt_mem (tb3 (List.mem_of_getElem? (i := 84) rfl)) rfl
theorem u565 : (Cond.stringRef "LockHouse" (149 : Nat) "a card carries no such thing") ∈ lw_tbl := tb3 (List.mem_of_getElem? (i := 85) rfl)
theorem w566 : (Cond.methodLink "LockHouseLaw" (124 : Nat) ({ cls := "LockHouseLaw", name := "memory", desc := "(LLockHouse;II[J)I" } : MethodName)) ∈ TT := tt_mem (tb3 (List.mem_of_getElem? (i := 86) rfl)) rfl
theorem w567 : (Cond.static ({ cls := "LockHouseLaw", name := "memory", desc := "(LLockHouse;II[J)I" } : MethodName)) ∈ TT := tt_mem (tb3 (List.mem_of_getElem? (i := 87) rfl)) rfl
theorem w568 : (Cond.codeWith ({ cls := "LockHouseLaw", name := "memory", desc := "(LLockHouse;II[J)I" } : MethodName) method_12_code (5 : Nat) (Option.some FieldType.int) [((0 : Nat), (10 : Nat), (13 : Nat), (19 : Nat))]) ∈ TT := tt_mem (tb3 (List.mem_of_getElem? (i := 88) rfl)) rfl
theorem w569 : (Cond.methodLink "LockHouseLaw" (47 : Nat) ({ cls := "LockHouse", name := "memory", desc := "(II)I" } : MethodName)) ∈ TT := tt_mem (tb3 (List.mem_of_getElem? (i := 89) rfl)) rfl
theorem w570 : (Cond.instanceMethod ({ cls := "LockHouse", name := "memory", desc := "(II)I" } : MethodName)) ∈ TT := tt_mem (tb3 (List.mem_of_getElem? (i := 90) rfl)) rfl
theorem w571 : (Cond.selects "LockHouse" ({ cls := "LockHouse", name := "memory", desc := "(II)I" } : MethodName) ({ cls := "LockHouse", name := "memory", desc := "(II)I" } : MethodName)) ∈ TT := tt_mem (tb3 (List.mem_of_getElem? (i := 91) rfl)) rfl
theorem w572 : (Cond.code ({ cls := "LockHouse", name := "memory", desc := "(II)I" } : MethodName) prog_1_method_13_code (4 : Nat) (Option.some FieldType.int)) ∈ TT := tt_mem (tb3 (List.mem_of_getElem? (i := 92) rfl)) rfl
theorem u573 : (Cond.stringRef "LockHouse" (151 : Nat) "no such entry on the card") ∈ lw_tbl := tb3 (List.mem_of_getElem? (i := 93) rfl)
theorem w574 : (Cond.methodLink "LockHouseLaw" (127 : Nat) ({ cls := "LockHouseLaw", name := "about", desc := "(LLockHouse;II[J)I" } : MethodName)) ∈ TT := tt_mem (tb3 (List.mem_of_getElem? (i := 94) rfl)) rfl
theorem w575 : (Cond.static ({ cls := "LockHouseLaw", name := "about", desc := "(LLockHouse;II[J)I" } : MethodName)) ∈ TT := tt_mem (tb3 (List.mem_of_getElem? (i := 95) rfl)) rfl
theorem w576 : (Cond.codeWith ({ cls := "LockHouseLaw", name := "about", desc := "(LLockHouse;II[J)I" } : MethodName) method_13_code (5 : Nat) (Option.some FieldType.int) [((0 : Nat), (10 : Nat), (13 : Nat), (19 : Nat)), ((0 : Nat), (10 : Nat), (17 : Nat), (29 : Nat))]) ∈ TT := tt_mem (tb3 (List.mem_of_getElem? (i := 96) rfl)) rfl
theorem w577 : (Cond.methodLink "LockHouseLaw" (50 : Nat) ({ cls := "LockHouse", name := "about", desc := "(II)I" } : MethodName)) ∈ TT := tt_mem (tb3 (List.mem_of_getElem? (i := 97) rfl)) rfl
theorem w578 : (Cond.instanceMethod ({ cls := "LockHouse", name := "about", desc := "(II)I" } : MethodName)) ∈ TT := tt_mem (tb3 (List.mem_of_getElem? (i := 98) rfl)) rfl
theorem w579 : (Cond.selects "LockHouse" ({ cls := "LockHouse", name := "about", desc := "(II)I" } : MethodName) ({ cls := "LockHouse", name := "about", desc := "(II)I" } : MethodName)) ∈ TT := tt_mem (tb3 (List.mem_of_getElem? (i := 99) rfl)) rfl
theorem w580 : (Cond.code ({ cls := "LockHouse", name := "about", desc := "(II)I" } : MethodName) prog_1_method_14_code (4 : Nat) (Option.some FieldType.int)) ∈ TT := tt_mem (tb3 (List.mem_of_getElem? (i := 100) rfl)) rfl
theorem w581 : (Cond.methodLink "LockHouse" (153 : Nat) ({ cls := "LockHouse$Door", name := "complete", desc := "(LLockHouse$EntryList;)I" } : MethodName)) ∈ TT := tt_mem (tb3 (List.mem_of_getElem? (i := 101) rfl)) rfl
theorem w582 : (Cond.instanceMethod ({ cls := "LockHouse$Door", name := "complete", desc := "(LLockHouse$EntryList;)I" } : MethodName)) ∈ TT := tt_mem (tb3 (List.mem_of_getElem? (i := 102) rfl)) rfl
theorem w583 : (Cond.selects "LockHouse$Door" ({ cls := "LockHouse$Door", name := "complete", desc := "(LLockHouse$EntryList;)I" } : MethodName) ({ cls := "LockHouse$Door", name := "complete", desc := "(LLockHouse$EntryList;)I" } : MethodName)) ∈ TT := tt_mem (tb3 (List.mem_of_getElem? (i := 103) rfl)) rfl
theorem w584 : (Cond.code ({ cls := "LockHouse$Door", name := "complete", desc := "(LLockHouse$EntryList;)I" } : MethodName) prog_3_method_6_code (2 : Nat) (Option.some FieldType.int)) ∈ TT := tt_mem (tb3 (List.mem_of_getElem? (i := 104) rfl)) rfl
theorem w585 : (Cond.methodLink "LockHouse$Door" (78 : Nat) ({ cls := "LockHouse$Door", name := "endOfRun", desc := "(ILLockHouse$EntryList;)I" } : MethodName)) ∈ TT := tt_mem (tb3 (List.mem_of_getElem? (i := 105) rfl)) rfl
theorem w586 : (Cond.instanceMethod ({ cls := "LockHouse$Door", name := "endOfRun", desc := "(ILLockHouse$EntryList;)I" } : MethodName)) ∈ TT := tt_mem (tb3 (List.mem_of_getElem? (i := 106) rfl)) rfl
theorem w587 : (Cond.selects "LockHouse$Door" ({ cls := "LockHouse$Door", name := "endOfRun", desc := "(ILLockHouse$EntryList;)I" } : MethodName) ({ cls := "LockHouse$Door", name := "endOfRun", desc := "(ILLockHouse$EntryList;)I" } : MethodName)) ∈ TT := tt_mem (tb3 (List.mem_of_getElem? (i := 107) rfl)) rfl
theorem w588 : (Cond.code ({ cls := "LockHouse$Door", name := "endOfRun", desc := "(ILLockHouse$EntryList;)I" } : MethodName) prog_3_method_10_code (4 : Nat) (Option.some FieldType.int)) ∈ TT := tt_mem (tb3 (List.mem_of_getElem? (i := 108) rfl)) rfl
theorem w589 : (Cond.methodLink "LockHouse$Door" (82 : Nat) ({ cls := "LockHouse$EntryList", name := "made", desc := "()I" } : MethodName)) ∈ TT := tt_mem (tb3 (List.mem_of_getElem? (i := 109) rfl)) rfl
theorem w590 : (Cond.methodLink "LockHouse" (163 : Nat) ({ cls := "java/lang/Math", name := "max", desc := "(II)I" } : MethodName)) ∈ TT := tt_mem (tb3 (List.mem_of_getElem? (i := 110) rfl)) rfl
theorem w591 : (Cond.methodLink "LockHouse" (166 : Nat) ({ cls := "LockHouse$Door", name := "countEntries", desc := "(LLockHouse$EntryList;)I" } : MethodName)) ∈ TT := tt_mem (tb3 (List.mem_of_getElem? (i := 111) rfl)) rfl
theorem w592 : (Cond.instanceMethod ({ cls := "LockHouse$Door", name := "countEntries", desc := "(LLockHouse$EntryList;)I" } : MethodName)) ∈ TT := tt_mem (tb3 (List.mem_of_getElem? (i := 112) rfl)) rfl
theorem w593 : (Cond.selects "LockHouse$Door" ({ cls := "LockHouse$Door", name := "countEntries", desc := "(LLockHouse$EntryList;)I" } : MethodName) ({ cls := "LockHouse$Door", name := "countEntries", desc := "(LLockHouse$EntryList;)I" } : MethodName)) ∈ TT := tt_mem (tb3 (List.mem_of_getElem? (i := 113) rfl)) rfl
theorem w594 : (Cond.code ({ cls := "LockHouse$Door", name := "countEntries", desc := "(LLockHouse$EntryList;)I" } : MethodName) prog_3_method_7_code (4 : Nat) (Option.some FieldType.int)) ∈ TT := tt_mem (tb3 (List.mem_of_getElem? (i := 114) rfl)) rfl
theorem w595 : (Cond.methodLink "LockHouse" (169 : Nat) ({ cls := "LockHouse$Door", name := "countRuns", desc := "(LLockHouse$EntryList;)I" } : MethodName)) ∈ TT := tt_mem (tb3 (List.mem_of_getElem? (i := 115) rfl)) rfl
theorem w596 : (Cond.instanceMethod ({ cls := "LockHouse$Door", name := "countRuns", desc := "(LLockHouse$EntryList;)I" } : MethodName)) ∈ TT := tt_mem (tb3 (List.mem_of_getElem? (i := 116) rfl)) rfl
theorem w597 : (Cond.selects "LockHouse$Door" ({ cls := "LockHouse$Door", name := "countRuns", desc := "(LLockHouse$EntryList;)I" } : MethodName) ({ cls := "LockHouse$Door", name := "countRuns", desc := "(LLockHouse$EntryList;)I" } : MethodName)) ∈ TT := tt_mem (tb3 (List.mem_of_getElem? (i := 117) rfl)) rfl
theorem w598 : (Cond.code ({ cls := "LockHouse$Door", name := "countRuns", desc := "(LLockHouse$EntryList;)I" } : MethodName) prog_3_method_8_code (4 : Nat) (Option.some FieldType.int)) ∈ TT := tt_mem (tb3 (List.mem_of_getElem? (i := 118) rfl)) rfl
theorem w599 : (Cond.methodLink "LockHouse$Door" (85 : Nat) ({ cls := "LockHouse$Door", name := "startsRun", desc := "(ILLockHouse$EntryList;)Z" } : MethodName)) ∈ TT := tt_mem (tb3 (List.mem_of_getElem? (i := 119) rfl)) rfl
theorem u600 : (Cond.privateMethod ({ cls := "LockHouse$Door", name := "startsRun", desc := "(ILLockHouse$EntryList;)Z" } : MethodName)) ∈ lw_tbl := tb3 (List.mem_of_getElem? (i := 120) rfl)
theorem w601 : (Cond.instanceMethod ({ cls := "LockHouse$Door", name := "startsRun", desc := "(ILLockHouse$EntryList;)Z" } : MethodName)) ∈ TT := tt_mem (tb3 (List.mem_of_getElem? (i := 121) rfl)) rfl
theorem w602 : (Cond.code ({ cls := "LockHouse$Door", name := "startsRun", desc := "(ILLockHouse$EntryList;)Z" } : MethodName) prog_3_method_11_code (3 : Nat) (Option.some FieldType.boolean)) ∈ TT := tt_mem (tb3 (List.mem_of_getElem? (i := 122) rfl)) rfl
theorem u603 : (Cond.stringRef "LockHouse" (172 : Nat) "there is no such thing about a door") ∈ lw_tbl := tb3 (List.mem_of_getElem? (i := 123) rfl)
theorem w604 : (Cond.methodLink "LockHouseLaw" (130 : Nat) ({ cls := "LockHouseLaw", name := "run", desc := "(LLockHouse;IIZ[J)I" } : MethodName)) ∈ TT := tt_mem (tb3 (List.mem_of_getElem? (i := 124) rfl)) rfl
theorem w605 : (Cond.static ({ cls := "LockHouseLaw", name := "run", desc := "(LLockHouse;IIZ[J)I" } : MethodName)) ∈ TT := tt_mem (tb3 (List.mem_of_getElem? (i := 125) rfl)) rfl
theorem w606 : (Cond.codeWith ({ cls := "LockHouseLaw", name := "run", desc := "(LLockHouse;IIZ[J)I" } : MethodName) method_14_code (6 : Nat) (Option.some FieldType.int) [((0 : Nat), (12 : Nat), (15 : Nat), (19 : Nat))]) ∈ TT := tt_mem (tb3 (List.mem_of_getElem? (i := 126) rfl)) rfl
theorem w607 : (Cond.methodLink "LockHouseLaw" (53 : Nat) ({ cls := "LockHouse", name := "run", desc := "(IIZ)I" } : MethodName)) ∈ TT := tt_mem (tb3 (List.mem_of_getElem? (i := 127) rfl)) rfl
theorem w608 : (Cond.instanceMethod ({ cls := "LockHouse", name := "run", desc := "(IIZ)I" } : MethodName)) ∈ TT := tt_mem (tb3 (List.mem_of_getElem? (i := 128) rfl)) rfl
theorem w609 : (Cond.selects "LockHouse" ({ cls := "LockHouse", name := "run", desc := "(IIZ)I" } : MethodName) ({ cls := "LockHouse", name := "run", desc := "(IIZ)I" } : MethodName)) ∈ TT := tt_mem (tb3 (List.mem_of_getElem? (i := 129) rfl)) rfl
theorem w610 : (Cond.code ({ cls := "LockHouse", name := "run", desc := "(IIZ)I" } : MethodName) prog_1_method_15_code (6 : Nat) (Option.some FieldType.int)) ∈ TT := tt_mem (tb3 (List.mem_of_getElem? (i := 130) rfl)) rfl
theorem w611 : (Cond.methodLink "LockHouse" (174 : Nat) ({ cls := "LockHouse$Door", name := "startOfRun", desc := "(ILLockHouse$EntryList;)I" } : MethodName)) ∈ TT := tt_mem (tb3 (List.mem_of_getElem? (i := 131) rfl)) rfl
theorem w612 : (Cond.instanceMethod ({ cls := "LockHouse$Door", name := "startOfRun", desc := "(ILLockHouse$EntryList;)I" } : MethodName)) ∈ TT := tt_mem (tb3 (List.mem_of_getElem? (i := 132) rfl)) rfl
theorem w613 : (Cond.selects "LockHouse$Door" ({ cls := "LockHouse$Door", name := "startOfRun", desc := "(ILLockHouse$EntryList;)I" } : MethodName) ({ cls := "LockHouse$Door", name := "startOfRun", desc := "(ILLockHouse$EntryList;)I" } : MethodName)) ∈ TT := tt_mem (tb3 (List.mem_of_getElem? (i := 133) rfl)) rfl
theorem w614 : (Cond.code ({ cls := "LockHouse$Door", name := "startOfRun", desc := "(ILLockHouse$EntryList;)I" } : MethodName) prog_3_method_9_code (5 : Nat) (Option.some FieldType.int)) ∈ TT := tt_mem (tb3 (List.mem_of_getElem? (i := 134) rfl)) rfl
theorem u615 : (Cond.stringRef "LockHouse" (178 : Nat) "no such run") ∈ lw_tbl := tb3 (List.mem_of_getElem? (i := 135) rfl)
theorem w616 : (Cond.methodLink "LockHouse" (180 : Nat) ({ cls := "LockHouse$Door", name := "endOfRun", desc := "(ILLockHouse$EntryList;)I" } : MethodName)) ∈ TT := tt_mem (tb3 (List.mem_of_getElem? (i := 136) rfl)) rfl
theorem w617 : (Cond.methodLink "LockHouseLaw" (134 : Nat) ({ cls := "LockHouseLaw", name := "refuses", desc := "(LLockHouse;II[J)I" } : MethodName)) ∈ TT := tt_mem (tb3 (List.mem_of_getElem? (i := 137) rfl)) rfl
theorem w618 : (Cond.static ({ cls := "LockHouseLaw", name := "refuses", desc := "(LLockHouse;II[J)I" } : MethodName)) ∈ TT := tt_mem (tb3 (List.mem_of_getElem? (i := 138) rfl)) rfl
theorem w619 : (Cond.codeWith ({ cls := "LockHouseLaw", name := "refuses", desc := "(LLockHouse;II[J)I" } : MethodName) method_15_code (5 : Nat) (Option.some FieldType.int) [((0 : Nat), (17 : Nat), (20 : Nat), (19 : Nat))]) ∈ TT := tt_mem (tb3 (List.mem_of_getElem? (i := 139) rfl)) rfl
theorem w620 : (Cond.methodLink "LockHouseLaw" (57 : Nat) ({ cls := "LockHouse", name := "refuses", desc := "(II)Z" } : MethodName)) ∈ TT := tt_mem (tb3 (List.mem_of_getElem? (i := 140) rfl)) rfl
theorem w621 : (Cond.instanceMethod ({ cls := "LockHouse", name := "refuses", desc := "(II)Z" } : MethodName)) ∈ TT := tt_mem (tb3 (List.mem_of_getElem? (i := 141) rfl)) rfl
theorem w622 : (Cond.selects "LockHouse" ({ cls := "LockHouse", name := "refuses", desc := "(II)Z" } : MethodName) ({ cls := "LockHouse", name := "refuses", desc := "(II)Z" } : MethodName)) ∈ TT := tt_mem (tb3 (List.mem_of_getElem? (i := 142) rfl)) rfl
theorem w623 : (Cond.code ({ cls := "LockHouse", name := "refuses", desc := "(II)Z" } : MethodName) prog_1_method_16_code (4 : Nat) (Option.some FieldType.boolean)) ∈ TT := tt_mem (tb3 (List.mem_of_getElem? (i := 143) rfl)) rfl
theorem w624 : (Cond.methodLink "LockHouse" (183 : Nat) ({ cls := "LockHouse$Door", name := "has", desc := "(ILLockHouse$EntryList;)Z" } : MethodName)) ∈ TT := tt_mem (tb3 (List.mem_of_getElem? (i := 144) rfl)) rfl
theorem w625 : (Cond.methodLink "LockHouseLaw" (137 : Nat) ({ cls := "LockHouseLaw", name := "reach", desc := "(LLockHouse;I[J)I" } : MethodName)) ∈ TT := tt_mem (tb3 (List.mem_of_getElem? (i := 145) rfl)) rfl
theorem w626 : (Cond.static ({ cls := "LockHouseLaw", name := "reach", desc := "(LLockHouse;I[J)I" } : MethodName)) ∈ TT := tt_mem (tb3 (List.mem_of_getElem? (i := 146) rfl)) rfl
theorem w627 : (Cond.codeWith ({ cls := "LockHouseLaw", name := "reach", desc := "(LLockHouse;I[J)I" } : MethodName) method_16_code (4 : Nat) (Option.some FieldType.int) [((0 : Nat), (9 : Nat), (12 : Nat), (19 : Nat))]) ∈ TT := tt_mem (tb3 (List.mem_of_getElem? (i := 147) rfl)) rfl
theorem w628 : (Cond.methodLink "LockHouseLaw" (61 : Nat) ({ cls := "LockHouse", name := "reach", desc := "(I)I" } : MethodName)) ∈ TT := tt_mem (tb3 (List.mem_of_getElem? (i := 148) rfl)) rfl
theorem w629 : (Cond.instanceMethod ({ cls := "LockHouse", name := "reach", desc := "(I)I" } : MethodName)) ∈ TT := tt_mem (tb3 (List.mem_of_getElem? (i := 149) rfl)) rfl
theorem w630 : (Cond.selects "LockHouse" ({ cls := "LockHouse", name := "reach", desc := "(I)I" } : MethodName) ({ cls := "LockHouse", name := "reach", desc := "(I)I" } : MethodName)) ∈ TT := tt_mem (tb3 (List.mem_of_getElem? (i := 150) rfl)) rfl
theorem w631 : (Cond.code ({ cls := "LockHouse", name := "reach", desc := "(I)I" } : MethodName) prog_1_method_17_code (2 : Nat) (Option.some FieldType.int)) ∈ TT := tt_mem (tb3 (List.mem_of_getElem? (i := 151) rfl)) rfl
theorem u632 : (Cond.stringRef "LockHouse" (187 : Nat) "no such entry") ∈ lw_tbl := tb3 (List.mem_of_getElem? (i := 152) rfl)
theorem w633 : (Cond.methodLink "LockHouse" (189 : Nat) ({ cls := "LockHouse$EntryList", name := "countDoorsWith", desc := "(I)I" } : MethodName)) ∈ TT := tt_mem (tb3 (List.mem_of_getElem? (i := 153) rfl)) rfl
theorem w634 : (Cond.instanceMethod ({ cls := "LockHouse$EntryList", name := "countDoorsWith", desc := "(I)I" } : MethodName)) ∈ TT := tt_mem (tb3 (List.mem_of_getElem? (i := 154) rfl)) rfl
theorem w635 : (Cond.selects "LockHouse$EntryList" ({ cls := "LockHouse$EntryList", name := "countDoorsWith", desc := "(I)I" } : MethodName) ({ cls := "LockHouse$EntryList", name := "countDoorsWith", desc := "(I)I" } : MethodName)) ∈ TT := tt_mem (tb3 (List.mem_of_getElem? (i := 155) rfl)) rfl
theorem w636 : (Cond.code ({ cls := "LockHouse$EntryList", name := "countDoorsWith", desc := "(I)I" } : MethodName) prog_5_method_8_code (2 : Nat) (Option.some FieldType.int)) ∈ TT := tt_mem (tb3 (List.mem_of_getElem? (i := 156) rfl)) rfl
theorem w637 : (Cond.methodLink "LockHouse$EntryList" (49 : Nat) ({ cls := "LockHouse$Entry", name := "countDoors", desc := "()I" } : MethodName)) ∈ TT := tt_mem (tb3 (List.mem_of_getElem? (i := 157) rfl)) rfl
theorem w638 : (Cond.instanceMethod ({ cls := "LockHouse$Entry", name := "countDoors", desc := "()I" } : MethodName)) ∈ TT := tt_mem (tb3 (List.mem_of_getElem? (i := 158) rfl)) rfl
theorem w639 : (Cond.selects "LockHouse$Entry" ({ cls := "LockHouse$Entry", name := "countDoors", desc := "()I" } : MethodName) ({ cls := "LockHouse$Entry", name := "countDoors", desc := "()I" } : MethodName)) ∈ TT := tt_mem (tb3 (List.mem_of_getElem? (i := 159) rfl)) rfl
theorem w640 : (Cond.code ({ cls := "LockHouse$Entry", name := "countDoors", desc := "()I" } : MethodName) prog_4_method_4_code (6 : Nat) (Option.some FieldType.int)) ∈ TT := tt_mem (tb3 (List.mem_of_getElem? (i := 160) rfl)) rfl
theorem w641 : (Cond.methodLink "LockHouseLaw" (140 : Nat) ({ cls := "LockHouseLaw", name := "loseBattery", desc := "(LLockHouse;I)I" } : MethodName)) ∈ TT := tt_mem (tb3 (List.mem_of_getElem? (i := 161) rfl)) rfl
theorem w642 : (Cond.static ({ cls := "LockHouseLaw", name := "loseBattery", desc := "(LLockHouse;I)I" } : MethodName)) ∈ TT := tt_mem (tb3 (List.mem_of_getElem? (i := 162) rfl)) rfl
theorem w643 : (Cond.codeWith ({ cls := "LockHouseLaw", name := "loseBattery", desc := "(LLockHouse;I)I" } : MethodName) method_17_code (3 : Nat) (Option.some FieldType.int) [((0 : Nat), (5 : Nat), (8 : Nat), (19 : Nat))]) ∈ TT := tt_mem (tb3 (List.mem_of_getElem? (i := 163) rfl)) rfl
theorem w644 : (Cond.methodLink "LockHouseLaw" (64 : Nat) ({ cls := "LockHouse", name := "loseBattery", desc := "(I)V" } : MethodName)) ∈ TT := tt_mem (tb3 (List.mem_of_getElem? (i := 164) rfl)) rfl
theorem w645 : (Cond.instanceMethod ({ cls := "LockHouse", name := "loseBattery", desc := "(I)V" } : MethodName)) ∈ TT := tt_mem (tb3 (List.mem_of_getElem? (i := 165) rfl)) rfl
theorem w646 : (Cond.selects "LockHouse" ({ cls := "LockHouse", name := "loseBattery", desc := "(I)V" } : MethodName) ({ cls := "LockHouse", name := "loseBattery", desc := "(I)V" } : MethodName)) ∈ TT := tt_mem (tb3 (List.mem_of_getElem? (i := 166) rfl)) rfl
theorem w647 : (Cond.code ({ cls := "LockHouse", name := "loseBattery", desc := "(I)V" } : MethodName) prog_1_method_18_code (2 : Nat) (Option.none : Option FieldType)) ∈ TT := tt_mem (tb3 (List.mem_of_getElem? (i := 167) rfl)) rfl
theorem w648 : (Cond.methodLink "LockHouseLaw" (143 : Nat) ({ cls := "LockHouseLaw", name := "visit", desc := "(LLockHouse;IIII)I" } : MethodName)) ∈ TT := tt_mem (tb3 (List.mem_of_getElem? (i := 168) rfl)) rfl
theorem w649 : (Cond.static ({ cls := "LockHouseLaw", name := "visit", desc := "(LLockHouse;IIII)I" } : MethodName)) ∈ TT := tt_mem (tb3 (List.mem_of_getElem? (i := 169) rfl)) rfl
theorem w650 : (Cond.codeWith ({ cls := "LockHouseLaw", name := "visit", desc := "(LLockHouse;IIII)I" } : MethodName) method_18_code (6 : Nat) (Option.some FieldType.int) [((0 : Nat), (9 : Nat), (12 : Nat), (19 : Nat))]) ∈ TT := tt_mem (tb3 (List.mem_of_getElem? (i := 170) rfl)) rfl
theorem w651 : (Cond.methodLink "LockHouseLaw" (67 : Nat) ({ cls := "LockHouse", name := "visit", desc := "(IIII)V" } : MethodName)) ∈ TT := tt_mem (tb3 (List.mem_of_getElem? (i := 171) rfl)) rfl
theorem w652 : (Cond.instanceMethod ({ cls := "LockHouse", name := "visit", desc := "(IIII)V" } : MethodName)) ∈ TT := tt_mem (tb3 (List.mem_of_getElem? (i := 172) rfl)) rfl
theorem w653 : (Cond.selects "LockHouse" ({ cls := "LockHouse", name := "visit", desc := "(IIII)V" } : MethodName) ({ cls := "LockHouse", name := "visit", desc := "(IIII)V" } : MethodName)) ∈ TT := tt_mem (tb3 (List.mem_of_getElem? (i := 173) rfl)) rfl
theorem w654 : (Cond.code ({ cls := "LockHouse", name := "visit", desc := "(IIII)V" } : MethodName) prog_1_method_19_code (5 : Nat) (Option.none : Option FieldType)) ∈ TT := tt_mem (tb3 (List.mem_of_getElem? (i := 174) rfl)) rfl
theorem u655 : (Cond.stringRef "LockHouse" (199 : Nat) "no such visit, card or door") ∈ lw_tbl := tb3 (List.mem_of_getElem? (i := 175) rfl)
theorem w656 : (Cond.methodLink "LockHouseLaw" (147 : Nat) ({ cls := "LockHouseLaw", name := "spread", desc := "(LLockHouse;I[J)I" } : MethodName)) ∈ TT := tt_mem (tb3 (List.mem_of_getElem? (i := 176) rfl)) rfl
theorem w657 : (Cond.static ({ cls := "LockHouseLaw", name := "spread", desc := "(LLockHouse;I[J)I" } : MethodName)) ∈ TT := tt_mem (tb3 (List.mem_of_getElem? (i := 177) rfl)) rfl
theorem w658 : (Cond.codeWith ({ cls := "LockHouseLaw", name := "spread", desc := "(LLockHouse;I[J)I" } : MethodName) method_19_code (4 : Nat) (Option.some FieldType.int) [((0 : Nat), (9 : Nat), (12 : Nat), (29 : Nat))]) ∈ TT := tt_mem (tb3 (List.mem_of_getElem? (i := 178) rfl)) rfl
theorem w659 : (Cond.methodLink "LockHouseLaw" (71 : Nat) ({ cls := "LockHouse", name := "spread", desc := "(I)I" } : MethodName)) ∈ TT := tt_mem (tb3 (List.mem_of_getElem? (i := 179) rfl)) rfl
theorem w660 : (Cond.instanceMethod ({ cls := "LockHouse", name := "spread", desc := "(I)I" } : MethodName)) ∈ TT := tt_mem (tb3 (List.mem_of_getElem? (i := 180) rfl)) rfl
theorem w661 : (Cond.selects "LockHouse" ({ cls := "LockHouse", name := "spread", desc := "(I)I" } : MethodName) ({ cls := "LockHouse", name := "spread", desc := "(I)I" } : MethodName)) ∈ TT := tt_mem (tb3 (List.mem_of_getElem? (i := 181) rfl)) rfl
theorem w662 : (Cond.code ({ cls := "LockHouse", name := "spread", desc := "(I)I" } : MethodName) prog_1_method_20_code (4 : Nat) (Option.some FieldType.int)) ∈ TT := tt_mem (tb3 (List.mem_of_getElem? (i := 182) rfl)) rfl
theorem u663 : (Cond.stringRef "LockHouse" (201 : Nat) "no such number of visits") ∈ lw_tbl := tb3 (List.mem_of_getElem? (i := 183) rfl)
theorem w664 : (Cond.classLink "LockHouseLaw" (75 : Nat) "LockHouseModel") ∈ TT := tt_mem (tb3 (List.mem_of_getElem? (i := 184) rfl)) rfl
theorem w665 : (Cond.instantiable "LockHouseModel" (18 : Nat)) ∈ TT := tt_mem (tb3 (List.mem_of_getElem? (i := 185) rfl)) rfl
theorem w666 : (Cond.methodLink "LockHouseLaw" (77 : Nat) ({ cls := "LockHouseModel", name := "<init>", desc := "()V" } : MethodName)) ∈ TT := tt_mem (tb3 (List.mem_of_getElem? (i := 186) rfl)) rfl
theorem w667 : (Cond.instanceMethod ({ cls := "LockHouseModel", name := "<init>", desc := "()V" } : MethodName)) ∈ TT := tt_mem (tb3 (List.mem_of_getElem? (i := 187) rfl)) rfl
theorem w668 : (Cond.code ({ cls := "LockHouseModel", name := "<init>", desc := "()V" } : MethodName) prog_8_method_1_code (1 : Nat) (Option.none : Option FieldType)) ∈ TT := tt_mem (tb3 (List.mem_of_getElem? (i := 188) rfl)) rfl
theorem w669 : (Cond.methodLink "LockHouseModel" (1 : Nat) ({ cls := "java/lang/Object", name := "<init>", desc := "()V" } : MethodName)) ∈ TT := tt_mem (tb3 (List.mem_of_getElem? (i := 189) rfl)) rfl
theorem w670 : (Cond.constant "LockHouseModel" (22 : Nat) (352000 : Int32)) ∈ TT := tt_mem (tb3 (List.mem_of_getElem? (i := 190) rfl)) rfl
theorem w671 : (Cond.constant "LockHouseModel" (33 : Nat) (600200 : Int32)) ∈ TT := tt_mem (tb3 (List.mem_of_getElem? (i := 191) rfl)) rfl
theorem w672 : (Cond.fieldLink "LockHouseModel" (59 : Nat) "LockHouseModel" "code" "I") ∈ TT := tt_mem (tb3 (List.mem_of_getElem? (i := 192) rfl)) rfl
theorem w673 : (Cond.fieldLink "LockHouseModel" (63 : Nat) "LockHouseModel" "cards" "I") ∈ TT := tt_mem (tb3 (List.mem_of_getElem? (i := 193) rfl)) rfl
theorem w674 : (Cond.fieldLink "LockHouseModel" (7 : Nat) "LockHouseModel" "zones" "[I") ∈ TT := tt_mem (tb3 (List.mem_of_getElem? (i := 194) rfl)) rfl
theorem w675 : (Cond.fieldLink "LockHouseModel" (13 : Nat) "LockHouseModel" "endDay" "[I") ∈ TT := tt_mem (tb3 (List.mem_of_getElem? (i := 195) rfl)) rfl
theorem w676 : (Cond.fieldLink "LockHouseModel" (16 : Nat) "LockHouseModel" "keep" "[I") ∈ TT := tt_mem (tb3 (List.mem_of_getElem? (i := 196) rfl)) rfl
theorem w677 : (Cond.fieldLink "LockHouseModel" (19 : Nat) "LockHouseModel" "written" "[I") ∈ TT := tt_mem (tb3 (List.mem_of_getElem? (i := 197) rfl)) rfl
theorem w678 : (Cond.fieldLink "LockHouseModel" (23 : Nat) "LockHouseModel" "words" "[S") ∈ TT := tt_mem (tb3 (List.mem_of_getElem? (i := 198) rfl)) rfl
theorem w679 : (Cond.fieldLink "LockHouseModel" (27 : Nat) "LockHouseModel" "entryFor" "[I") ∈ TT := tt_mem (tb3 (List.mem_of_getElem? (i := 199) rfl)) rfl
theorem w680 : (Cond.fieldLink "LockHouseModel" (30 : Nat) "LockHouseModel" "cardOf" "[I") ∈ TT := tt_mem (tb3 (List.mem_of_getElem? (i := 200) rfl)) rfl
theorem w681 : (Cond.fieldLink "LockHouseModel" (70 : Nat) "LockHouseModel" "entries" "I") ∈ TT := tt_mem (tb3 (List.mem_of_getElem? (i := 201) rfl)) rfl
theorem w682 : (Cond.fieldLink "LockHouseModel" (34 : Nat) "LockHouseModel" "has" "[Z") ∈ TT := tt_mem (tb3 (List.mem_of_getElem? (i := 202) rfl)) rfl
theorem w683 : (Cond.fieldLink "LockHouseModel" (38 : Nat) "LockHouseModel" "zone" "[I") ∈ TT := tt_mem (tb3 (List.mem_of_getElem? (i := 203) rfl)) rfl
theorem w684 : (Cond.fieldLink "LockHouseModel" (41 : Nat) "LockHouseModel" "used" "[Z") ∈ TT := tt_mem (tb3 (List.mem_of_getElem? (i := 204) rfl)) rfl
theorem w685 : (Cond.fieldLink "LockHouseModel" (44 : Nat) "LockHouseModel" "heard" "[I") ∈ TT := tt_mem (tb3 (List.mem_of_getElem? (i := 205) rfl)) rfl
theorem w686 : (Cond.fieldLink "LockHouseModel" (47 : Nat) "LockHouseModel" "some" "[Z") ∈ TT := tt_mem (tb3 (List.mem_of_getElem? (i := 206) rfl)) rfl
theorem w687 : (Cond.fieldLink "LockHouseModel" (50 : Nat) "LockHouseModel" "visitCard" "[I") ∈ TT := tt_mem (tb3 (List.mem_of_getElem? (i := 207) rfl)) rfl
theorem w688 : (Cond.fieldLink "LockHouseModel" (53 : Nat) "LockHouseModel" "visitDoor" "[I") ∈ TT := tt_mem (tb3 (List.mem_of_getElem? (i := 208) rfl)) rfl
theorem w689 : (Cond.fieldLink "LockHouseModel" (56 : Nat) "LockHouseModel" "visitDay" "[I") ∈ TT := tt_mem (tb3 (List.mem_of_getElem? (i := 209) rfl)) rfl
theorem w690 : (Cond.lays "LockHouseModel" "LockHouseModel" "code" "I") ∈ TT := tt_mem (tb3 (List.mem_of_getElem? (i := 210) rfl)) rfl
theorem w691 : (Cond.soleField "LockHouseModel" "code") ∈ TT := tt_mem (tb3 (List.mem_of_getElem? (i := 211) rfl)) rfl
theorem w692 : (Cond.lays "LockHouseModel" "LockHouseModel" "cards" "I") ∈ TT := tt_mem (tb3 (List.mem_of_getElem? (i := 212) rfl)) rfl
theorem w693 : (Cond.soleField "LockHouseModel" "cards") ∈ TT := tt_mem (tb3 (List.mem_of_getElem? (i := 213) rfl)) rfl
theorem w694 : (Cond.laysFinal "LockHouseModel" "LockHouseModel" "zones" "[I") ∈ TT := tt_mem (tb3 (List.mem_of_getElem? (i := 214) rfl)) rfl
theorem w695 : (Cond.soleField "LockHouseModel" "zones") ∈ TT := tt_mem (tb3 (List.mem_of_getElem? (i := 215) rfl)) rfl
theorem w696 : (Cond.laysFinal "LockHouseModel" "LockHouseModel" "endDay" "[I") ∈ TT := tt_mem (tb3 (List.mem_of_getElem? (i := 216) rfl)) rfl
theorem w697 : (Cond.soleField "LockHouseModel" "endDay") ∈ TT := tt_mem (tb3 (List.mem_of_getElem? (i := 217) rfl)) rfl
theorem w698 : (Cond.laysFinal "LockHouseModel" "LockHouseModel" "keep" "[I") ∈ TT := tt_mem (tb3 (List.mem_of_getElem? (i := 218) rfl)) rfl
theorem w699 : (Cond.soleField "LockHouseModel" "keep") ∈ TT := tt_mem (tb3 (List.mem_of_getElem? (i := 219) rfl)) rfl
theorem w700 : (Cond.laysFinal "LockHouseModel" "LockHouseModel" "written" "[I") ∈ TT := tt_mem (tb3 (List.mem_of_getElem? (i := 220) rfl)) rfl
theorem w701 : (Cond.soleField "LockHouseModel" "written") ∈ TT := tt_mem (tb3 (List.mem_of_getElem? (i := 221) rfl)) rfl
theorem w702 : (Cond.laysFinal "LockHouseModel" "LockHouseModel" "words" "[S") ∈ TT := tt_mem (tb3 (List.mem_of_getElem? (i := 222) rfl)) rfl
theorem w703 : (Cond.soleField "LockHouseModel" "words") ∈ TT := tt_mem (tb3 (List.mem_of_getElem? (i := 223) rfl)) rfl
theorem w704 : (Cond.laysFinal "LockHouseModel" "LockHouseModel" "entryFor" "[I") ∈ TT := tt_mem (tb3 (List.mem_of_getElem? (i := 224) rfl)) rfl
theorem w705 : (Cond.soleField "LockHouseModel" "entryFor") ∈ TT := tt_mem (tb3 (List.mem_of_getElem? (i := 225) rfl)) rfl
theorem w706 : (Cond.laysFinal "LockHouseModel" "LockHouseModel" "cardOf" "[I") ∈ TT := tt_mem (tb3 (List.mem_of_getElem? (i := 226) rfl)) rfl
theorem w707 : (Cond.soleField "LockHouseModel" "cardOf") ∈ TT := tt_mem (tb3 (List.mem_of_getElem? (i := 227) rfl)) rfl
theorem w708 : (Cond.lays "LockHouseModel" "LockHouseModel" "entries" "I") ∈ TT := tt_mem (tb3 (List.mem_of_getElem? (i := 228) rfl)) rfl
theorem w709 : (Cond.soleField "LockHouseModel" "entries") ∈ TT := tt_mem (tb3 (List.mem_of_getElem? (i := 229) rfl)) rfl
theorem w710 : (Cond.laysFinal "LockHouseModel" "LockHouseModel" "has" "[Z") ∈ TT := tt_mem (tb3 (List.mem_of_getElem? (i := 230) rfl)) rfl
theorem w711 : (Cond.soleField "LockHouseModel" "has") ∈ TT := tt_mem (tb3 (List.mem_of_getElem? (i := 231) rfl)) rfl
theorem w712 : (Cond.laysFinal "LockHouseModel" "LockHouseModel" "zone" "[I") ∈ TT := tt_mem (tb3 (List.mem_of_getElem? (i := 232) rfl)) rfl
theorem w713 : (Cond.soleField "LockHouseModel" "zone") ∈ TT := tt_mem (tb3 (List.mem_of_getElem? (i := 233) rfl)) rfl
theorem w714 : (Cond.laysFinal "LockHouseModel" "LockHouseModel" "used" "[Z") ∈ TT := tt_mem (tb3 (List.mem_of_getElem? (i := 234) rfl)) rfl
theorem w715 : (Cond.soleField "LockHouseModel" "used") ∈ TT := tt_mem (tb3 (List.mem_of_getElem? (i := 235) rfl)) rfl
theorem w716 : (Cond.laysFinal "LockHouseModel" "LockHouseModel" "heard" "[I") ∈ TT := tt_mem (tb3 (List.mem_of_getElem? (i := 236) rfl)) rfl
theorem w717 : (Cond.soleField "LockHouseModel" "heard") ∈ TT := tt_mem (tb3 (List.mem_of_getElem? (i := 237) rfl)) rfl
theorem w718 : (Cond.laysFinal "LockHouseModel" "LockHouseModel" "some" "[Z") ∈ TT := tt_mem (tb3 (List.mem_of_getElem? (i := 238) rfl)) rfl
theorem w719 : (Cond.soleField "LockHouseModel" "some") ∈ TT := tt_mem (tb3 (List.mem_of_getElem? (i := 239) rfl)) rfl
theorem w720 : (Cond.laysFinal "LockHouseModel" "LockHouseModel" "visitCard" "[I") ∈ TT := tt_mem (tb4 (List.mem_of_getElem? (i := 0) rfl)) rfl
theorem w721 : (Cond.soleField "LockHouseModel" "visitCard") ∈ TT := tt_mem (tb4 (List.mem_of_getElem? (i := 1) rfl)) rfl
theorem w722 : (Cond.laysFinal "LockHouseModel" "LockHouseModel" "visitDoor" "[I") ∈ TT := tt_mem (tb4 (List.mem_of_getElem? (i := 2) rfl)) rfl
theorem w723 : (Cond.soleField "LockHouseModel" "visitDoor") ∈ TT := tt_mem (tb4 (List.mem_of_getElem? (i := 3) rfl)) rfl
theorem w724 : (Cond.laysFinal "LockHouseModel" "LockHouseModel" "visitDay" "[I") ∈ TT := tt_mem (tb4 (List.mem_of_getElem? (i := 4) rfl)) rfl
theorem w725 : (Cond.soleField "LockHouseModel" "visitDay") ∈ TT := tt_mem (tb4 (List.mem_of_getElem? (i := 5) rfl)) rfl
theorem w726 : (Cond.superclass "LockHouseModel" "java/lang/Object") ∈ TT := tt_mem (tb4 (List.mem_of_getElem? (i := 6) rfl)) rfl
theorem w727 : (Cond.methodLink "LockHouseLaw" (84 : Nat) ({ cls := "LockHouseModel", name := "thrown", desc := "()I" } : MethodName)) ∈ TT := tt_mem (tb4 (List.mem_of_getElem? (i := 7) rfl)) rfl
theorem w728 : (Cond.instanceMethod ({ cls := "LockHouseModel", name := "thrown", desc := "()I" } : MethodName)) ∈ TT := tt_mem (tb4 (List.mem_of_getElem? (i := 8) rfl)) rfl
theorem w729 : (Cond.selects "LockHouseModel" ({ cls := "LockHouseModel", name := "thrown", desc := "()I" } : MethodName) ({ cls := "LockHouseModel", name := "thrown", desc := "()I" } : MethodName)) ∈ TT := tt_mem (tb4 (List.mem_of_getElem? (i := 9) rfl)) rfl
theorem w730 : (Cond.code ({ cls := "LockHouseModel", name := "thrown", desc := "()I" } : MethodName) prog_8_method_2_code (1 : Nat) (Option.some FieldType.int)) ∈ TT := tt_mem (tb4 (List.mem_of_getElem? (i := 10) rfl)) rfl
theorem w731 : (Cond.methodLink "LockHouseLaw" (83 : Nat) ({ cls := "LockHouseModel", name := "issue", desc := "(II)I" } : MethodName)) ∈ TT := tt_mem (tb4 (List.mem_of_getElem? (i := 11) rfl)) rfl
theorem w732 : (Cond.instanceMethod ({ cls := "LockHouseModel", name := "issue", desc := "(II)I" } : MethodName)) ∈ TT := tt_mem (tb4 (List.mem_of_getElem? (i := 12) rfl)) rfl
theorem w733 : (Cond.selects "LockHouseModel" ({ cls := "LockHouseModel", name := "issue", desc := "(II)I" } : MethodName) ({ cls := "LockHouseModel", name := "issue", desc := "(II)I" } : MethodName)) ∈ TT := tt_mem (tb4 (List.mem_of_getElem? (i := 13) rfl)) rfl
theorem w734 : (Cond.code ({ cls := "LockHouseModel", name := "issue", desc := "(II)I" } : MethodName) prog_8_method_5_code (3 : Nat) (Option.some FieldType.int)) ∈ TT := tt_mem (tb4 (List.mem_of_getElem? (i := 14) rfl)) rfl
theorem w735 : (Cond.methodLink "LockHouseLaw" (91 : Nat) ({ cls := "LockHouseModel", name := "cards", desc := "()I" } : MethodName)) ∈ TT := tt_mem (tb4 (List.mem_of_getElem? (i := 15) rfl)) rfl
theorem w736 : (Cond.instanceMethod ({ cls := "LockHouseModel", name := "cards", desc := "()I" } : MethodName)) ∈ TT := tt_mem (tb4 (List.mem_of_getElem? (i := 16) rfl)) rfl
theorem w737 : (Cond.selects "LockHouseModel" ({ cls := "LockHouseModel", name := "cards", desc := "()I" } : MethodName) ({ cls := "LockHouseModel", name := "cards", desc := "()I" } : MethodName)) ∈ TT := tt_mem (tb4 (List.mem_of_getElem? (i := 17) rfl)) rfl
theorem w738 : (Cond.code ({ cls := "LockHouseModel", name := "cards", desc := "()I" } : MethodName) prog_8_method_6_code (1 : Nat) (Option.some FieldType.int)) ∈ TT := tt_mem (tb4 (List.mem_of_getElem? (i := 18) rfl)) rfl
theorem w739 : (Cond.methodLink "LockHouseLaw" (95 : Nat) ({ cls := "LockHouseModel", name := "revoke", desc := "(I)I" } : MethodName)) ∈ TT := tt_mem (tb4 (List.mem_of_getElem? (i := 19) rfl)) rfl
theorem w740 : (Cond.instanceMethod ({ cls := "LockHouseModel", name := "revoke", desc := "(I)I" } : MethodName)) ∈ TT := tt_mem (tb4 (List.mem_of_getElem? (i := 20) rfl)) rfl
theorem w741 : (Cond.selects "LockHouseModel" ({ cls := "LockHouseModel", name := "revoke", desc := "(I)I" } : MethodName) ({ cls := "LockHouseModel", name := "revoke", desc := "(I)I" } : MethodName)) ∈ TT := tt_mem (tb4 (List.mem_of_getElem? (i := 21) rfl)) rfl
theorem w742 : (Cond.code ({ cls := "LockHouseModel", name := "revoke", desc := "(I)I" } : MethodName) prog_8_method_7_code (2 : Nat) (Option.some FieldType.int)) ∈ TT := tt_mem (tb4 (List.mem_of_getElem? (i := 22) rfl)) rfl
theorem w743 : (Cond.methodLink "LockHouseModel" (66 : Nat) ({ cls := "LockHouseModel", name := "noCard", desc := "(I)Z" } : MethodName)) ∈ TT := tt_mem (tb4 (List.mem_of_getElem? (i := 23) rfl)) rfl
theorem u744 : (Cond.privateMethod ({ cls := "LockHouseModel", name := "noCard", desc := "(I)Z" } : MethodName)) ∈ lw_tbl := tb4 (List.mem_of_getElem? (i := 24) rfl)
theorem w745 : (Cond.instanceMethod ({ cls := "LockHouseModel", name := "noCard", desc := "(I)Z" } : MethodName)) ∈ TT := tt_mem (tb4 (List.mem_of_getElem? (i := 25) rfl)) rfl
theorem w746 : (Cond.code ({ cls := "LockHouseModel", name := "noCard", desc := "(I)Z" } : MethodName) prog_8_method_3_code (2 : Nat) (Option.some FieldType.boolean)) ∈ TT := tt_mem (tb4 (List.mem_of_getElem? (i := 26) rfl)) rfl
theorem w747 : (Cond.methodLink "LockHouseLaw" (99 : Nat) ({ cls := "LockHouseModel", name := "entries", desc := "()I" } : MethodName)) ∈ TT := tt_mem (tb4 (List.mem_of_getElem? (i := 27) rfl)) rfl
theorem w748 : (Cond.instanceMethod ({ cls := "LockHouseModel", name := "entries", desc := "()I" } : MethodName)) ∈ TT := tt_mem (tb4 (List.mem_of_getElem? (i := 28) rfl)) rfl
theorem w749 : (Cond.selects "LockHouseModel" ({ cls := "LockHouseModel", name := "entries", desc := "()I" } : MethodName) ({ cls := "LockHouseModel", name := "entries", desc := "()I" } : MethodName)) ∈ TT := tt_mem (tb4 (List.mem_of_getElem? (i := 29) rfl)) rfl
theorem w750 : (Cond.code ({ cls := "LockHouseModel", name := "entries", desc := "()I" } : MethodName) prog_8_method_8_code (1 : Nat) (Option.some FieldType.int)) ∈ TT := tt_mem (tb4 (List.mem_of_getElem? (i := 30) rfl)) rfl
theorem w751 : (Cond.methodLink "LockHouseLaw" (103 : Nat) ({ cls := "LockHouseModel", name := "gate", desc := "(I)V" } : MethodName)) ∈ TT := tt_mem (tb4 (List.mem_of_getElem? (i := 31) rfl)) rfl
theorem w752 : (Cond.instanceMethod ({ cls := "LockHouseModel", name := "gate", desc := "(I)V" } : MethodName)) ∈ TT := tt_mem (tb4 (List.mem_of_getElem? (i := 32) rfl)) rfl
theorem w753 : (Cond.selects "LockHouseModel" ({ cls := "LockHouseModel", name := "gate", desc := "(I)V" } : MethodName) ({ cls := "LockHouseModel", name := "gate", desc := "(I)V" } : MethodName)) ∈ TT := tt_mem (tb4 (List.mem_of_getElem? (i := 33) rfl)) rfl
theorem w754 : (Cond.code ({ cls := "LockHouseModel", name := "gate", desc := "(I)V" } : MethodName) prog_8_method_19_code (2 : Nat) (Option.none : Option FieldType)) ∈ TT := tt_mem (tb4 (List.mem_of_getElem? (i := 34) rfl)) rfl
theorem w755 : (Cond.methodLink "LockHouseModel" (102 : Nat) ({ cls := "LockHouseModel", name := "write", desc := "(IIII)V" } : MethodName)) ∈ TT := tt_mem (tb4 (List.mem_of_getElem? (i := 35) rfl)) rfl
theorem u756 : (Cond.privateMethod ({ cls := "LockHouseModel", name := "write", desc := "(IIII)V" } : MethodName)) ∈ lw_tbl := tb4 (List.mem_of_getElem? (i := 36) rfl)
theorem w757 : (Cond.instanceMethod ({ cls := "LockHouseModel", name := "write", desc := "(IIII)V" } : MethodName)) ∈ TT := tt_mem (tb4 (List.mem_of_getElem? (i := 37) rfl)) rfl
theorem w758 : (Cond.code ({ cls := "LockHouseModel", name := "write", desc := "(IIII)V" } : MethodName) prog_8_method_17_code (11 : Nat) (Option.none : Option FieldType)) ∈ TT := tt_mem (tb4 (List.mem_of_getElem? (i := 38) rfl)) rfl
theorem w759 : (Cond.methodLink "LockHouseModel" (98 : Nat) ({ cls := "LockHouseModel", name := "tells", desc := "(IIII)Z" } : MethodName)) ∈ TT := tt_mem (tb4 (List.mem_of_getElem? (i := 39) rfl)) rfl
theorem u760 : (Cond.privateMethod ({ cls := "LockHouseModel", name := "tells", desc := "(IIII)Z" } : MethodName)) ∈ lw_tbl := tb4 (List.mem_of_getElem? (i := 40) rfl)
theorem w761 : (Cond.instanceMethod ({ cls := "LockHouseModel", name := "tells", desc := "(IIII)Z" } : MethodName)) ∈ TT := tt_mem (tb4 (List.mem_of_getElem? (i := 41) rfl)) rfl
theorem w762 : (Cond.code ({ cls := "LockHouseModel", name := "tells", desc := "(IIII)Z" } : MethodName) prog_8_method_16_code (7 : Nat) (Option.some FieldType.boolean)) ∈ TT := tt_mem (tb4 (List.mem_of_getElem? (i := 42) rfl)) rfl
theorem w763 : (Cond.methodLink "LockHouseModel" (89 : Nat) ({ cls := "LockHouseModel", name := "count", desc := "(I)I" } : MethodName)) ∈ TT := tt_mem (tb4 (List.mem_of_getElem? (i := 43) rfl)) rfl
theorem u764 : (Cond.privateMethod ({ cls := "LockHouseModel", name := "count", desc := "(I)I" } : MethodName)) ∈ lw_tbl := tb4 (List.mem_of_getElem? (i := 44) rfl)
theorem w765 : (Cond.instanceMethod ({ cls := "LockHouseModel", name := "count", desc := "(I)I" } : MethodName)) ∈ TT := tt_mem (tb4 (List.mem_of_getElem? (i := 45) rfl)) rfl
theorem w766 : (Cond.code ({ cls := "LockHouseModel", name := "count", desc := "(I)I" } : MethodName) prog_8_method_13_code (2 : Nat) (Option.some FieldType.int)) ∈ TT := tt_mem (tb4 (List.mem_of_getElem? (i := 46) rfl)) rfl
theorem w767 : (Cond.methodLink "LockHouseModel" (85 : Nat) ({ cls := "LockHouseModel", name := "current", desc := "(I)I" } : MethodName)) ∈ TT := tt_mem (tb4 (List.mem_of_getElem? (i := 47) rfl)) rfl
theorem u768 : (Cond.privateMethod ({ cls := "LockHouseModel", name := "current", desc := "(I)I" } : MethodName)) ∈ lw_tbl := tb4 (List.mem_of_getElem? (i := 48) rfl)
theorem w769 : (Cond.instanceMethod ({ cls := "LockHouseModel", name := "current", desc := "(I)I" } : MethodName)) ∈ TT := tt_mem (tb4 (List.mem_of_getElem? (i := 49) rfl)) rfl
theorem w770 : (Cond.code ({ cls := "LockHouseModel", name := "current", desc := "(I)I" } : MethodName) prog_8_method_12_code (3 : Nat) (Option.some FieldType.int)) ∈ TT := tt_mem (tb4 (List.mem_of_getElem? (i := 50) rfl)) rfl
theorem w771 : (Cond.methodLink "LockHouseModel" (77 : Nat) ({ cls := "LockHouseModel", name := "whole", desc := "(II)Z" } : MethodName)) ∈ TT := tt_mem (tb4 (List.mem_of_getElem? (i := 51) rfl)) rfl
theorem u772 : (Cond.privateMethod ({ cls := "LockHouseModel", name := "whole", desc := "(II)Z" } : MethodName)) ∈ lw_tbl := tb4 (List.mem_of_getElem? (i := 52) rfl)
theorem w773 : (Cond.instanceMethod ({ cls := "LockHouseModel", name := "whole", desc := "(II)Z" } : MethodName)) ∈ TT := tt_mem (tb4 (List.mem_of_getElem? (i := 53) rfl)) rfl
theorem w774 : (Cond.code ({ cls := "LockHouseModel", name := "whole", desc := "(II)Z" } : MethodName) prog_8_method_10_code (3 : Nat) (Option.some FieldType.boolean)) ∈ TT := tt_mem (tb4 (List.mem_of_getElem? (i := 54) rfl)) rfl
theorem w775 : (Cond.methodLink "LockHouseModel" (73 : Nat) ({ cls := "LockHouseModel", name := "wordAt", desc := "(III)I" } : MethodName)) ∈ TT := tt_mem (tb4 (List.mem_of_getElem? (i := 55) rfl)) rfl
theorem u776 : (Cond.privateMethod ({ cls := "LockHouseModel", name := "wordAt", desc := "(III)I" } : MethodName)) ∈ lw_tbl := tb4 (List.mem_of_getElem? (i := 56) rfl)
theorem w777 : (Cond.instanceMethod ({ cls := "LockHouseModel", name := "wordAt", desc := "(III)I" } : MethodName)) ∈ TT := tt_mem (tb4 (List.mem_of_getElem? (i := 57) rfl)) rfl
theorem w778 : (Cond.code ({ cls := "LockHouseModel", name := "wordAt", desc := "(III)I" } : MethodName) prog_8_method_9_code (4 : Nat) (Option.some FieldType.int)) ∈ TT := tt_mem (tb4 (List.mem_of_getElem? (i := 58) rfl)) rfl
theorem w779 : (Cond.methodLink "LockHouseModel" (81 : Nat) ({ cls := "LockHouseModel", name := "sequence", desc := "(II)I" } : MethodName)) ∈ TT := tt_mem (tb4 (List.mem_of_getElem? (i := 59) rfl)) rfl
theorem u780 : (Cond.privateMethod ({ cls := "LockHouseModel", name := "sequence", desc := "(II)I" } : MethodName)) ∈ lw_tbl := tb4 (List.mem_of_getElem? (i := 60) rfl)
theorem w781 : (Cond.instanceMethod ({ cls := "LockHouseModel", name := "sequence", desc := "(II)I" } : MethodName)) ∈ TT := tt_mem (tb4 (List.mem_of_getElem? (i := 61) rfl)) rfl
theorem w782 : (Cond.code ({ cls := "LockHouseModel", name := "sequence", desc := "(II)I" } : MethodName) prog_8_method_11_code (3 : Nat) (Option.some FieldType.int)) ∈ TT := tt_mem (tb4 (List.mem_of_getElem? (i := 62) rfl)) rfl
theorem w783 : (Cond.methodLink "LockHouseModel" (92 : Nat) ({ cls := "LockHouseModel", name := "first", desc := "(I)I" } : MethodName)) ∈ TT := tt_mem (tb4 (List.mem_of_getElem? (i := 63) rfl)) rfl
theorem u784 : (Cond.privateMethod ({ cls := "LockHouseModel", name := "first", desc := "(I)I" } : MethodName)) ∈ lw_tbl := tb4 (List.mem_of_getElem? (i := 64) rfl)
theorem w785 : (Cond.instanceMethod ({ cls := "LockHouseModel", name := "first", desc := "(I)I" } : MethodName)) ∈ TT := tt_mem (tb4 (List.mem_of_getElem? (i := 65) rfl)) rfl
theorem w786 : (Cond.code ({ cls := "LockHouseModel", name := "first", desc := "(I)I" } : MethodName) prog_8_method_14_code (2 : Nat) (Option.some FieldType.int)) ∈ TT := tt_mem (tb4 (List.mem_of_getElem? (i := 66) rfl)) rfl
theorem w787 : (Cond.methodLink "LockHouseModel" (95 : Nat) ({ cls := "LockHouseModel", name := "seen", desc := "(I)I" } : MethodName)) ∈ TT := tt_mem (tb4 (List.mem_of_getElem? (i := 67) rfl)) rfl
theorem u788 : (Cond.privateMethod ({ cls := "LockHouseModel", name := "seen", desc := "(I)I" } : MethodName)) ∈ lw_tbl := tb4 (List.mem_of_getElem? (i := 68) rfl)
theorem w789 : (Cond.instanceMethod ({ cls := "LockHouseModel", name := "seen", desc := "(I)I" } : MethodName)) ∈ TT := tt_mem (tb4 (List.mem_of_getElem? (i := 69) rfl)) rfl
theorem w790 : (Cond.code ({ cls := "LockHouseModel", name := "seen", desc := "(I)I" } : MethodName) prog_8_method_15_code (2 : Nat) (Option.some FieldType.int)) ∈ TT := tt_mem (tb4 (List.mem_of_getElem? (i := 70) rfl)) rfl
theorem w791 : (Cond.methodLink "LockHouseModel" (106 : Nat) ({ cls := "LockHouseModel", name := "give", desc := "(IIII)V" } : MethodName)) ∈ TT := tt_mem (tb4 (List.mem_of_getElem? (i := 71) rfl)) rfl
theorem u792 : (Cond.privateMethod ({ cls := "LockHouseModel", name := "give", desc := "(IIII)V" } : MethodName)) ∈ lw_tbl := tb4 (List.mem_of_getElem? (i := 72) rfl)
theorem w793 : (Cond.instanceMethod ({ cls := "LockHouseModel", name := "give", desc := "(IIII)V" } : MethodName)) ∈ TT := tt_mem (tb4 (List.mem_of_getElem? (i := 73) rfl)) rfl
theorem w794 : (Cond.code ({ cls := "LockHouseModel", name := "give", desc := "(IIII)V" } : MethodName) prog_8_method_18_code (6 : Nat) (Option.none : Option FieldType)) ∈ TT := tt_mem (tb4 (List.mem_of_getElem? (i := 74) rfl)) rfl
theorem w795 : (Cond.methodLink "LockHouseLaw" (107 : Nat) ({ cls := "LockHouseModel", name := "zoneOf", desc := "(II)V" } : MethodName)) ∈ TT := tt_mem (tb4 (List.mem_of_getElem? (i := 75) rfl)) rfl
theorem w796 : (Cond.instanceMethod ({ cls := "LockHouseModel", name := "zoneOf", desc := "(II)V" } : MethodName)) ∈ TT := tt_mem (tb4 (List.mem_of_getElem? (i := 76) rfl)) rfl
theorem w797 : (Cond.selects "LockHouseModel" ({ cls := "LockHouseModel", name := "zoneOf", desc := "(II)V" } : MethodName) ({ cls := "LockHouseModel", name := "zoneOf", desc := "(II)V" } : MethodName)) ∈ TT := tt_mem (tb4 (List.mem_of_getElem? (i := 77) rfl)) rfl
theorem w798 : (Cond.code ({ cls := "LockHouseModel", name := "zoneOf", desc := "(II)V" } : MethodName) prog_8_method_20_code (3 : Nat) (Option.none : Option FieldType)) ∈ TT := tt_mem (tb4 (List.mem_of_getElem? (i := 78) rfl)) rfl
theorem w799 : (Cond.methodLink "LockHouseModel" (109 : Nat) ({ cls := "LockHouseModel", name := "noDoor", desc := "(I)Z" } : MethodName)) ∈ TT := tt_mem (tb4 (List.mem_of_getElem? (i := 79) rfl)) rfl
theorem w800 : (Cond.static ({ cls := "LockHouseModel", name := "noDoor", desc := "(I)Z" } : MethodName)) ∈ TT := tt_mem (tb4 (List.mem_of_getElem? (i := 80) rfl)) rfl
theorem w801 : (Cond.code ({ cls := "LockHouseModel", name := "noDoor", desc := "(I)Z" } : MethodName) prog_8_method_4_code (1 : Nat) (Option.some FieldType.boolean)) ∈ TT := tt_mem (tb4 (List.mem_of_getElem? (i := 81) rfl)) rfl
theorem w802 : (Cond.methodLink "LockHouseLaw" (111 : Nat) ({ cls := "LockHouseModel", name := "show", desc := "(III)I" } : MethodName)) ∈ TT := tt_mem (tb4 (List.mem_of_getElem? (i := 82) rfl)) rfl
theorem w803 : (Cond.instanceMethod ({ cls := "LockHouseModel", name := "show", desc := "(III)I" } : MethodName)) ∈ TT := tt_mem (tb4 (List.mem_of_getElem? (i := 83) rfl)) rfl
theorem w804 : (Cond.selects "LockHouseModel" ({ cls := "LockHouseModel", name := "show", desc := "(III)I" } : MethodName) ({ cls := "LockHouseModel", name := "show", desc := "(III)I" } : MethodName)) ∈ TT := tt_mem (tb4 (List.mem_of_getElem? (i := 84) rfl)) rfl
theorem w805 : (Cond.code ({ cls := "LockHouseModel", name := "show", desc := "(III)I" } : MethodName) prog_8_method_25_code (4 : Nat) (Option.some FieldType.int)) ∈ TT := tt_mem (tb4 (List.mem_of_getElem? (i := 85) rfl)) rfl
theorem w806 : (Cond.methodLink "LockHouseModel" (118 : Nat) ({ cls := "LockHouseModel", name := "visitAt", desc := "(III)I" } : MethodName)) ∈ TT := tt_mem (tb4 (List.mem_of_getElem? (i := 86) rfl)) rfl
theorem u807 : (Cond.privateMethod ({ cls := "LockHouseModel", name := "visitAt", desc := "(III)I" } : MethodName)) ∈ lw_tbl := tb4 (List.mem_of_getElem? (i := 87) rfl)
theorem w808 : (Cond.instanceMethod ({ cls := "LockHouseModel", name := "visitAt", desc := "(III)I" } : MethodName)) ∈ TT := tt_mem (tb4 (List.mem_of_getElem? (i := 88) rfl)) rfl
theorem w809 : (Cond.code ({ cls := "LockHouseModel", name := "visitAt", desc := "(III)I" } : MethodName) prog_8_method_23_code (9 : Nat) (Option.some FieldType.int)) ∈ TT := tt_mem (tb4 (List.mem_of_getElem? (i := 89) rfl)) rfl
theorem w810 : (Cond.methodLink "LockHouseModel" (112 : Nat) ({ cls := "LockHouseModel", name := "revokedAt", desc := "(II)Z" } : MethodName)) ∈ TT := tt_mem (tb4 (List.mem_of_getElem? (i := 90) rfl)) rfl
theorem u811 : (Cond.privateMethod ({ cls := "LockHouseModel", name := "revokedAt", desc := "(II)Z" } : MethodName)) ∈ lw_tbl := tb4 (List.mem_of_getElem? (i := 91) rfl)
theorem w812 : (Cond.instanceMethod ({ cls := "LockHouseModel", name := "revokedAt", desc := "(II)Z" } : MethodName)) ∈ TT := tt_mem (tb4 (List.mem_of_getElem? (i := 92) rfl)) rfl
theorem w813 : (Cond.code ({ cls := "LockHouseModel", name := "revokedAt", desc := "(II)Z" } : MethodName) prog_8_method_24_code (3 : Nat) (Option.some FieldType.boolean)) ∈ TT := tt_mem (tb4 (List.mem_of_getElem? (i := 93) rfl)) rfl
theorem w814 : (Cond.methodLink "LockHouseModel" (115 : Nat) ({ cls := "LockHouseModel", name := "greatest", desc := "(I)I" } : MethodName)) ∈ TT := tt_mem (tb4 (List.mem_of_getElem? (i := 94) rfl)) rfl
theorem u815 : (Cond.privateMethod ({ cls := "LockHouseModel", name := "greatest", desc := "(I)I" } : MethodName)) ∈ lw_tbl := tb4 (List.mem_of_getElem? (i := 95) rfl)
theorem w816 : (Cond.instanceMethod ({ cls := "LockHouseModel", name := "greatest", desc := "(I)I" } : MethodName)) ∈ TT := tt_mem (tb4 (List.mem_of_getElem? (i := 96) rfl)) rfl
theorem w817 : (Cond.code ({ cls := "LockHouseModel", name := "greatest", desc := "(I)I" } : MethodName) prog_8_method_21_code (3 : Nat) (Option.some FieldType.int)) ∈ TT := tt_mem (tb4 (List.mem_of_getElem? (i := 97) rfl)) rfl
theorem w818 : (Cond.methodLink "LockHouseLaw" (114 : Nat) ({ cls := "LockHouseModel", name := "tear", desc := "(II)V" } : MethodName)) ∈ TT := tt_mem (tb4 (List.mem_of_getElem? (i := 98) rfl)) rfl
theorem w819 : (Cond.instanceMethod ({ cls := "LockHouseModel", name := "tear", desc := "(II)V" } : MethodName)) ∈ TT := tt_mem (tb4 (List.mem_of_getElem? (i := 99) rfl)) rfl
theorem w820 : (Cond.selects "LockHouseModel" ({ cls := "LockHouseModel", name := "tear", desc := "(II)V" } : MethodName) ({ cls := "LockHouseModel", name := "tear", desc := "(II)V" } : MethodName)) ∈ TT := tt_mem (tb4 (List.mem_of_getElem? (i := 100) rfl)) rfl
theorem w821 : (Cond.code ({ cls := "LockHouseModel", name := "tear", desc := "(II)V" } : MethodName) prog_8_method_26_code (3 : Nat) (Option.none : Option FieldType)) ∈ TT := tt_mem (tb4 (List.mem_of_getElem? (i := 101) rfl)) rfl
theorem w822 : (Cond.methodLink "LockHouseLaw" (117 : Nat) ({ cls := "LockHouseModel", name := "written", desc := "(I)I" } : MethodName)) ∈ TT := tt_mem (tb4 (List.mem_of_getElem? (i := 102) rfl)) rfl
theorem w823 : (Cond.instanceMethod ({ cls := "LockHouseModel", name := "written", desc := "(I)I" } : MethodName)) ∈ TT := tt_mem (tb4 (List.mem_of_getElem? (i := 103) rfl)) rfl
theorem w824 : (Cond.selects "LockHouseModel" ({ cls := "LockHouseModel", name := "written", desc := "(I)I" } : MethodName) ({ cls := "LockHouseModel", name := "written", desc := "(I)I" } : MethodName)) ∈ TT := tt_mem (tb4 (List.mem_of_getElem? (i := 104) rfl)) rfl
theorem w825 : (Cond.code ({ cls := "LockHouseModel", name := "written", desc := "(I)I" } : MethodName) prog_8_method_27_code (2 : Nat) (Option.some FieldType.int)) ∈ TT := tt_mem (tb4 (List.mem_of_getElem? (i := 105) rfl)) rfl
theorem w826 : (Cond.methodLink "LockHouseLaw" (120 : Nat) ({ cls := "LockHouseModel", name := "word", desc := "(III)I" } : MethodName)) ∈ TT := tt_mem (tb4 (List.mem_of_getElem? (i := 106) rfl)) rfl
theorem w827 : (Cond.instanceMethod ({ cls := "LockHouseModel", name := "word", desc := "(III)I" } : MethodName)) ∈ TT := tt_mem (tb4 (List.mem_of_getElem? (i := 107) rfl)) rfl
theorem w828 : (Cond.selects "LockHouseModel" ({ cls := "LockHouseModel", name := "word", desc := "(III)I" } : MethodName) ({ cls := "LockHouseModel", name := "word", desc := "(III)I" } : MethodName)) ∈ TT := tt_mem (tb4 (List.mem_of_getElem? (i := 108) rfl)) rfl
theorem w829 : (Cond.code ({ cls := "LockHouseModel", name := "word", desc := "(III)I" } : MethodName) prog_8_method_28_code (4 : Nat) (Option.some FieldType.int)) ∈ TT := tt_mem (tb4 (List.mem_of_getElem? (i := 109) rfl)) rfl
theorem w830 : (Cond.methodLink "LockHouseLaw" (123 : Nat) ({ cls := "LockHouseModel", name := "carries", desc := "(II)I" } : MethodName)) ∈ TT := tt_mem (tb4 (List.mem_of_getElem? (i := 110) rfl)) rfl
theorem w831 : (Cond.instanceMethod ({ cls := "LockHouseModel", name := "carries", desc := "(II)I" } : MethodName)) ∈ TT := tt_mem (tb4 (List.mem_of_getElem? (i := 111) rfl)) rfl
theorem w832 : (Cond.selects "LockHouseModel" ({ cls := "LockHouseModel", name := "carries", desc := "(II)I" } : MethodName) ({ cls := "LockHouseModel", name := "carries", desc := "(II)I" } : MethodName)) ∈ TT := tt_mem (tb4 (List.mem_of_getElem? (i := 112) rfl)) rfl
theorem w833 : (Cond.code ({ cls := "LockHouseModel", name := "carries", desc := "(II)I" } : MethodName) prog_8_method_29_code (3 : Nat) (Option.some FieldType.int)) ∈ TT := tt_mem (tb4 (List.mem_of_getElem? (i := 113) rfl)) rfl
theorem w834 : (Cond.methodLink "LockHouseLaw" (126 : Nat) ({ cls := "LockHouseModel", name := "memory", desc := "(II)I" } : MethodName)) ∈ TT := tt_mem (tb4 (List.mem_of_getElem? (i := 114) rfl)) rfl
theorem w835 : (Cond.instanceMethod ({ cls := "LockHouseModel", name := "memory", desc := "(II)I" } : MethodName)) ∈ TT := tt_mem (tb4 (List.mem_of_getElem? (i := 115) rfl)) rfl
theorem w836 : (Cond.selects "LockHouseModel" ({ cls := "LockHouseModel", name := "memory", desc := "(II)I" } : MethodName) ({ cls := "LockHouseModel", name := "memory", desc := "(II)I" } : MethodName)) ∈ TT := tt_mem (tb4 (List.mem_of_getElem? (i := 116) rfl)) rfl
theorem w837 : (Cond.code ({ cls := "LockHouseModel", name := "memory", desc := "(II)I" } : MethodName) prog_8_method_30_code (3 : Nat) (Option.some FieldType.int)) ∈ TT := tt_mem (tb4 (List.mem_of_getElem? (i := 117) rfl)) rfl
theorem w838 : (Cond.methodLink "LockHouseLaw" (129 : Nat) ({ cls := "LockHouseModel", name := "about", desc := "(II)I" } : MethodName)) ∈ TT := tt_mem (tb4 (List.mem_of_getElem? (i := 118) rfl)) rfl
theorem w839 : (Cond.instanceMethod ({ cls := "LockHouseModel", name := "about", desc := "(II)I" } : MethodName)) ∈ TT := tt_mem (tb4 (List.mem_of_getElem? (i := 119) rfl)) rfl
theorem w840 : (Cond.selects "LockHouseModel" ({ cls := "LockHouseModel", name := "about", desc := "(II)I" } : MethodName) ({ cls := "LockHouseModel", name := "about", desc := "(II)I" } : MethodName)) ∈ TT := tt_mem (tb4 (List.mem_of_getElem? (i := 120) rfl)) rfl
theorem w841 : (Cond.code ({ cls := "LockHouseModel", name := "about", desc := "(II)I" } : MethodName) prog_8_method_33_code (5 : Nat) (Option.some FieldType.int)) ∈ TT := tt_mem (tb4 (List.mem_of_getElem? (i := 121) rfl)) rfl
theorem w842 : (Cond.methodLink "LockHouseModel" (121 : Nat) ({ cls := "LockHouseModel", name := "complete", desc := "(I)I" } : MethodName)) ∈ TT := tt_mem (tb4 (List.mem_of_getElem? (i := 122) rfl)) rfl
theorem u843 : (Cond.privateMethod ({ cls := "LockHouseModel", name := "complete", desc := "(I)I" } : MethodName)) ∈ lw_tbl := tb4 (List.mem_of_getElem? (i := 123) rfl)
theorem w844 : (Cond.instanceMethod ({ cls := "LockHouseModel", name := "complete", desc := "(I)I" } : MethodName)) ∈ TT := tt_mem (tb4 (List.mem_of_getElem? (i := 124) rfl)) rfl
theorem w845 : (Cond.code ({ cls := "LockHouseModel", name := "complete", desc := "(I)I" } : MethodName) prog_8_method_22_code (3 : Nat) (Option.some FieldType.int)) ∈ TT := tt_mem (tb4 (List.mem_of_getElem? (i := 125) rfl)) rfl
theorem w846 : (Cond.methodLink "LockHouseModel" (124 : Nat) ({ cls := "LockHouseModel", name := "marks", desc := "(I)I" } : MethodName)) ∈ TT := tt_mem (tb4 (List.mem_of_getElem? (i := 126) rfl)) rfl
theorem u847 : (Cond.privateMethod ({ cls := "LockHouseModel", name := "marks", desc := "(I)I" } : MethodName)) ∈ lw_tbl := tb4 (List.mem_of_getElem? (i := 127) rfl)
theorem w848 : (Cond.instanceMethod ({ cls := "LockHouseModel", name := "marks", desc := "(I)I" } : MethodName)) ∈ TT := tt_mem (tb4 (List.mem_of_getElem? (i := 128) rfl)) rfl
theorem w849 : (Cond.code ({ cls := "LockHouseModel", name := "marks", desc := "(I)I" } : MethodName) prog_8_method_31_code (4 : Nat) (Option.some FieldType.int)) ∈ TT := tt_mem (tb4 (List.mem_of_getElem? (i := 129) rfl)) rfl
theorem w850 : (Cond.methodLink "LockHouseModel" (127 : Nat) ({ cls := "LockHouseModel", name := "runs", desc := "(I)I" } : MethodName)) ∈ TT := tt_mem (tb4 (List.mem_of_getElem? (i := 130) rfl)) rfl
theorem u851 : (Cond.privateMethod ({ cls := "LockHouseModel", name := "runs", desc := "(I)I" } : MethodName)) ∈ lw_tbl := tb4 (List.mem_of_getElem? (i := 131) rfl)
theorem w852 : (Cond.instanceMethod ({ cls := "LockHouseModel", name := "runs", desc := "(I)I" } : MethodName)) ∈ TT := tt_mem (tb4 (List.mem_of_getElem? (i := 132) rfl)) rfl
theorem w853 : (Cond.code ({ cls := "LockHouseModel", name := "runs", desc := "(I)I" } : MethodName) prog_8_method_32_code (4 : Nat) (Option.some FieldType.int)) ∈ TT := tt_mem (tb4 (List.mem_of_getElem? (i := 133) rfl)) rfl
theorem w854 : (Cond.methodLink "LockHouseLaw" (133 : Nat) ({ cls := "LockHouseModel", name := "run", desc := "(IIZ)I" } : MethodName)) ∈ TT := tt_mem (tb4 (List.mem_of_getElem? (i := 134) rfl)) rfl
theorem w855 : (Cond.instanceMethod ({ cls := "LockHouseModel", name := "run", desc := "(IIZ)I" } : MethodName)) ∈ TT := tt_mem (tb4 (List.mem_of_getElem? (i := 135) rfl)) rfl
theorem w856 : (Cond.selects "LockHouseModel" ({ cls := "LockHouseModel", name := "run", desc := "(IIZ)I" } : MethodName) ({ cls := "LockHouseModel", name := "run", desc := "(IIZ)I" } : MethodName)) ∈ TT := tt_mem (tb4 (List.mem_of_getElem? (i := 136) rfl)) rfl
theorem w857 : (Cond.code ({ cls := "LockHouseModel", name := "run", desc := "(IIZ)I" } : MethodName) prog_8_method_34_code (6 : Nat) (Option.some FieldType.int)) ∈ TT := tt_mem (tb4 (List.mem_of_getElem? (i := 137) rfl)) rfl
theorem w858 : (Cond.methodLink "LockHouseLaw" (136 : Nat) ({ cls := "LockHouseModel", name := "refuses", desc := "(II)Z" } : MethodName)) ∈ TT := tt_mem (tb4 (List.mem_of_getElem? (i := 138) rfl)) rfl
theorem w859 : (Cond.instanceMethod ({ cls := "LockHouseModel", name := "refuses", desc := "(II)Z" } : MethodName)) ∈ TT := tt_mem (tb4 (List.mem_of_getElem? (i := 139) rfl)) rfl
theorem w860 : (Cond.selects "LockHouseModel" ({ cls := "LockHouseModel", name := "refuses", desc := "(II)Z" } : MethodName) ({ cls := "LockHouseModel", name := "refuses", desc := "(II)Z" } : MethodName)) ∈ TT := tt_mem (tb4 (List.mem_of_getElem? (i := 140) rfl)) rfl
theorem w861 : (Cond.code ({ cls := "LockHouseModel", name := "refuses", desc := "(II)Z" } : MethodName) prog_8_method_35_code (3 : Nat) (Option.some FieldType.boolean)) ∈ TT := tt_mem (tb4 (List.mem_of_getElem? (i := 141) rfl)) rfl
theorem w862 : (Cond.methodLink "LockHouseLaw" (139 : Nat) ({ cls := "LockHouseModel", name := "reach", desc := "(I)I" } : MethodName)) ∈ TT := tt_mem (tb4 (List.mem_of_getElem? (i := 142) rfl)) rfl
theorem w863 : (Cond.instanceMethod ({ cls := "LockHouseModel", name := "reach", desc := "(I)I" } : MethodName)) ∈ TT := tt_mem (tb4 (List.mem_of_getElem? (i := 143) rfl)) rfl
theorem w864 : (Cond.selects "LockHouseModel" ({ cls := "LockHouseModel", name := "reach", desc := "(I)I" } : MethodName) ({ cls := "LockHouseModel", name := "reach", desc := "(I)I" } : MethodName)) ∈ TT := tt_mem (tb4 (List.mem_of_getElem? (i := 144) rfl)) rfl
theorem w865 : (Cond.code ({ cls := "LockHouseModel", name := "reach", desc := "(I)I" } : MethodName) prog_8_method_36_code (4 : Nat) (Option.some FieldType.int)) ∈ TT := tt_mem (tb4 (List.mem_of_getElem? (i := 145) rfl)) rfl
theorem w866 : (Cond.methodLink "LockHouseLaw" (142 : Nat) ({ cls := "LockHouseModel", name := "loseBattery", desc := "(I)V" } : MethodName)) ∈ TT := tt_mem (tb4 (List.mem_of_getElem? (i := 146) rfl)) rfl
theorem w867 : (Cond.instanceMethod ({ cls := "LockHouseModel", name := "loseBattery", desc := "(I)V" } : MethodName)) ∈ TT := tt_mem (tb4 (List.mem_of_getElem? (i := 147) rfl)) rfl
theorem w868 : (Cond.selects "LockHouseModel" ({ cls := "LockHouseModel", name := "loseBattery", desc := "(I)V" } : MethodName) ({ cls := "LockHouseModel", name := "loseBattery", desc := "(I)V" } : MethodName)) ∈ TT := tt_mem (tb4 (List.mem_of_getElem? (i := 148) rfl)) rfl
theorem w869 : (Cond.code ({ cls := "LockHouseModel", name := "loseBattery", desc := "(I)V" } : MethodName) prog_8_method_37_code (2 : Nat) (Option.none : Option FieldType)) ∈ TT := tt_mem (tb4 (List.mem_of_getElem? (i := 149) rfl)) rfl
theorem w870 : (Cond.methodLink "LockHouseLaw" (146 : Nat) ({ cls := "LockHouseModel", name := "visit", desc := "(IIII)V" } : MethodName)) ∈ TT := tt_mem (tb4 (List.mem_of_getElem? (i := 150) rfl)) rfl
theorem w871 : (Cond.instanceMethod ({ cls := "LockHouseModel", name := "visit", desc := "(IIII)V" } : MethodName)) ∈ TT := tt_mem (tb4 (List.mem_of_getElem? (i := 151) rfl)) rfl
theorem w872 : (Cond.selects "LockHouseModel" ({ cls := "LockHouseModel", name := "visit", desc := "(IIII)V" } : MethodName) ({ cls := "LockHouseModel", name := "visit", desc := "(IIII)V" } : MethodName)) ∈ TT := tt_mem (tb4 (List.mem_of_getElem? (i := 152) rfl)) rfl
theorem w873 : (Cond.code ({ cls := "LockHouseModel", name := "visit", desc := "(IIII)V" } : MethodName) prog_8_method_38_code (5 : Nat) (Option.none : Option FieldType)) ∈ TT := tt_mem (tb4 (List.mem_of_getElem? (i := 153) rfl)) rfl
theorem w874 : (Cond.methodLink "LockHouseLaw" (149 : Nat) ({ cls := "LockHouseModel", name := "spread", desc := "(I)I" } : MethodName)) ∈ TT := tt_mem (tb4 (List.mem_of_getElem? (i := 154) rfl)) rfl
theorem w875 : (Cond.instanceMethod ({ cls := "LockHouseModel", name := "spread", desc := "(I)I" } : MethodName)) ∈ TT := tt_mem (tb4 (List.mem_of_getElem? (i := 155) rfl)) rfl
theorem w876 : (Cond.selects "LockHouseModel" ({ cls := "LockHouseModel", name := "spread", desc := "(I)I" } : MethodName) ({ cls := "LockHouseModel", name := "spread", desc := "(I)I" } : MethodName)) ∈ TT := tt_mem (tb4 (List.mem_of_getElem? (i := 156) rfl)) rfl
theorem w877 : (Cond.code ({ cls := "LockHouseModel", name := "spread", desc := "(I)I" } : MethodName) prog_8_method_39_code (4 : Nat) (Option.some FieldType.int)) ∈ TT := tt_mem (tb4 (List.mem_of_getElem? (i := 157) rfl)) rfl
theorem w878 : (Cond.arrayClass FieldType.long) ∈ TT := tt_mem (tb4 (List.mem_of_getElem? (i := 158) rfl)) rfl
theorem w879 : (Cond.sameMethod "java/lang/Throwable" "java/lang/Throwable" "fillInStackTrace" "(I)Ljava/lang/Throwable;") ∈ TT := tt_mem (tb4 (List.mem_of_getElem? (i := 159) rfl)) rfl
theorem u880 : (Cond.castable "LockHouse$Card" "LockHouse$Card") ∈ lw_tbl := tb4 (List.mem_of_getElem? (i := 160) rfl)
theorem u881 : (Cond.castable "LockHouse$Entry" "LockHouse$Entry") ∈ lw_tbl := tb4 (List.mem_of_getElem? (i := 161) rfl)
theorem w882 : (Cond.sameMethod "[Ljava/lang/Object;" "java/lang/Object" "getClass" "()Ljava/lang/Class;") ∈ TT := tt_mem (tb4 (List.mem_of_getElem? (i := 162) rfl)) rfl
theorem w883 : (Cond.selects "[Ljava/lang/Object;" ({ cls := "java/lang/Object", name := "getClass", desc := "()Ljava/lang/Class;" } : MethodName) ({ cls := "java/lang/Object", name := "getClass", desc := "()Ljava/lang/Class;" } : MethodName)) ∈ TT := tt_mem (tb4 (List.mem_of_getElem? (i := 163) rfl)) rfl
theorem u884 : (Cond.declares ({ cls := "java/lang/Object", name := "getClass", desc := "()Ljava/lang/Class;" } : MethodName)) ∈ lw_tbl := tb4 (List.mem_of_getElem? (i := 164) rfl)
theorem u885 : (Cond.castable "LockHouse" "java/lang/Object") ∈ lw_tbl := tb4 (List.mem_of_getElem? (i := 165) rfl)
theorem u886 : (Cond.castable "LockHouse$EntryList" "java/lang/Object") ∈ lw_tbl := tb4 (List.mem_of_getElem? (i := 166) rfl)
theorem u887 : (Cond.castable "LockHouse$Door" "java/lang/Object") ∈ lw_tbl := tb4 (List.mem_of_getElem? (i := 167) rfl)
theorem u888 : (Cond.castable "LockHouseModel" "java/lang/Object") ∈ lw_tbl := tb4 (List.mem_of_getElem? (i := 168) rfl)
theorem u889 : (Cond.castable "LockHouse$Card" "java/lang/Object") ∈ lw_tbl := tb4 (List.mem_of_getElem? (i := 169) rfl)
theorem u890 : (Cond.castable "LockHouse$Image" "java/lang/Object") ∈ lw_tbl := tb4 (List.mem_of_getElem? (i := 170) rfl)
theorem u891 : (Cond.castable "LockHouse$Entry" "java/lang/Object") ∈ lw_tbl := tb4 (List.mem_of_getElem? (i := 171) rfl)
theorem u892 : (Cond.castable "java/lang/String" "java/lang/Object") ∈ lw_tbl := tb4 (List.mem_of_getElem? (i := 172) rfl)
