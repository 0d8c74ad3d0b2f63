def AW : List Cond := lw_tbl.filter goodWord
theorem AW_in : ∀ w ∈ AW, w ∈ lw_tbl := fun w h => (List.mem_filter.mp h).1
theorem AW_of {w : Cond} (h : w ∈ lw_tbl) (g : goodWord w = true) : w ∈ AW := List.mem_filter.mpr ⟨h, g⟩
theorem AW_good : AW.all goodWord = true := List.all_eq_true.mpr (fun w h => (List.mem_filter.mp h).2)
theorem in_tables_1_1 {w : Cond} (h : w ∈ tables_1_1) : w ∈ lw_tbl := List.mem_append_right _ (List.mem_append_left _ h)
theorem kw1_0 : Cond.initialized "TrainNoteLaw" ∈ AW := AW_of (in_tables_1_1 (List.mem_of_getElem? (i := 0) rfl)) rfl
theorem kw1_1 : Cond.initialized "TrainNote" ∈ AW := AW_of (in_tables_1_1 (List.mem_of_getElem? (i := 1) rfl)) rfl
theorem kw1_2 : Cond.initialized "TrainNote$Text" ∈ AW := AW_of (in_tables_1_1 (List.mem_of_getElem? (i := 2) rfl)) rfl
theorem kw1_3 : Cond.initialized "java/lang/Math" ∈ AW := AW_of (in_tables_1_1 (List.mem_of_getElem? (i := 3) rfl)) rfl
theorem kw1_4 : Cond.initialized "TrainNote$Choir" ∈ AW := AW_of (in_tables_1_1 (List.mem_of_getElem? (i := 4) rfl)) rfl
theorem kw1_5 : Cond.initialized "TrainNote$Song" ∈ AW := AW_of (in_tables_1_1 (List.mem_of_getElem? (i := 5) rfl)) rfl
theorem kw1_6 : Cond.initialized "TrainNote$Train" ∈ AW := AW_of (in_tables_1_1 (List.mem_of_getElem? (i := 6) rfl)) rfl
theorem kw1_7 : Cond.initialized "TrainNote$Memory" ∈ AW := AW_of (in_tables_1_1 (List.mem_of_getElem? (i := 7) rfl)) rfl
theorem kw1_8 : Cond.initialized "TrainNote$Sheet" ∈ AW := AW_of (in_tables_1_1 (List.mem_of_getElem? (i := 8) rfl)) rfl
theorem kw1_9 : Cond.initialized "TrainNoteModel" ∈ AW := AW_of (in_tables_1_1 (List.mem_of_getElem? (i := 9) rfl)) rfl
theorem kw1_10 : Cond.initialized "java/lang/Integer" ∈ AW := AW_of (in_tables_1_1 (List.mem_of_getElem? (i := 10) rfl)) rfl
theorem kw1_11 : Cond.initialized "java/util/Arrays" ∈ AW := AW_of (in_tables_1_1 (List.mem_of_getElem? (i := 11) rfl)) rfl
theorem kw1_12 : Cond.initialized "java/lang/System" ∈ AW := AW_of (in_tables_1_1 (List.mem_of_getElem? (i := 12) rfl)) rfl
theorem kw1_13 : Cond.classLink "TrainNoteLaw" 7 "TrainNote" ∈ AW := AW_of (in_tables_1_1 (List.mem_of_getElem? (i := 13) rfl)) rfl
theorem kw1_14 : Cond.instantiable "TrainNote" 12 ∈ AW := AW_of (in_tables_1_1 (List.mem_of_getElem? (i := 14) rfl)) rfl
theorem kw1_15 : Cond.methodLink "TrainNoteLaw" 9 yX6_init ∈ AW := AW_of (in_tables_1_1 (List.mem_of_getElem? (i := 15) rfl)) rfl
theorem kw1_16 : Cond.instanceMethod yX6_init ∈ AW := AW_of (in_tables_1_1 (List.mem_of_getElem? (i := 16) rfl)) rfl
theorem kw1_17 : Cond.code yX6_init prog_1_method_1_code 1 none ∈ AW := AW_of (in_tables_1_1 (List.mem_of_getElem? (i := 17) rfl)) rfl
theorem kw1_18 : Cond.methodLink "TrainNote" 1 ⟨"java/lang/Object", "<init>", "()V"⟩ ∈ AW := AW_of (in_tables_1_1 (List.mem_of_getElem? (i := 18) rfl)) rfl
theorem kw1_19 : Cond.instanceMethod ⟨"java/lang/Object", "<init>", "()V"⟩ ∈ AW := AW_of (in_tables_1_1 (List.mem_of_getElem? (i := 19) rfl)) rfl
theorem kw1_20 : Cond.code ⟨"java/lang/Object", "<init>", "()V"⟩ object_method_1_code 1 none ∈ AW := AW_of (in_tables_1_1 (List.mem_of_getElem? (i := 20) rfl)) rfl
theorem kw1_21 : Cond.classLink "TrainNote" 7 "TrainNote$Text" ∈ AW := AW_of (in_tables_1_1 (List.mem_of_getElem? (i := 21) rfl)) rfl
theorem kw1_22 : Cond.instantiable "TrainNote$Text" 3 ∈ AW := AW_of (in_tables_1_1 (List.mem_of_getElem? (i := 22) rfl)) rfl
theorem kw1_23 : Cond.methodLink "TrainNote" 11 yX4_init ∈ AW := AW_of (in_tables_1_1 (List.mem_of_getElem? (i := 23) rfl)) rfl
theorem kw1_24 : Cond.instanceMethod yX4_init ∈ AW := AW_of (in_tables_1_1 (List.mem_of_getElem? (i := 24) rfl)) rfl
theorem kw1_25 : Cond.code yX4_init prog_6_method_1_code 2 none ∈ AW := AW_of (in_tables_1_1 (List.mem_of_getElem? (i := 25) rfl)) rfl
theorem kw1_26 : Cond.methodLink "TrainNote$Text" 3 ⟨"java/lang/Object", "<init>", "()V"⟩ ∈ AW := AW_of (in_tables_1_1 (List.mem_of_getElem? (i := 26) rfl)) rfl
theorem kw1_27 : Cond.methodLink "TrainNote$Text" 19 yJ9_min_7cf53 ∈ AW := AW_of (in_tables_1_1 (List.mem_of_getElem? (i := 27) rfl)) rfl
theorem kw1_28 : Cond.static yJ9_min_7cf53 ∈ AW := AW_of (in_tables_1_1 (List.mem_of_getElem? (i := 28) rfl)) rfl
theorem kw1_29 : Cond.code yJ9_min_7cf53 prog_11_method_69_code 2 (some .int) ∈ AW := AW_of (in_tables_1_1 (List.mem_of_getElem? (i := 29) rfl)) rfl
theorem kw1_30 : Cond.fieldLink "TrainNote$Text" 9 "TrainNote$Text" "bytes" "[I" ∈ AW := AW_of (in_tables_1_1 (List.mem_of_getElem? (i := 30) rfl)) rfl
theorem kw1_31 : Cond.fieldLink "TrainNote$Choir" 48 "TrainNote$Text" "bytes" "[I" ∈ AW := AW_of (in_tables_1_1 (List.mem_of_getElem? (i := 31) rfl)) rfl
theorem kw1_32 : Cond.fieldLink "TrainNote$Song" 35 "TrainNote$Text" "bytes" "[I" ∈ AW := AW_of (in_tables_1_1 (List.mem_of_getElem? (i := 32) rfl)) rfl
theorem kw1_33 : Cond.fieldLink "TrainNote$Text" 25 "TrainNote$Text" "room" "I" ∈ AW := AW_of (in_tables_1_1 (List.mem_of_getElem? (i := 33) rfl)) rfl
theorem kw1_34 : Cond.fieldLink "TrainNote$Text" 15 "TrainNote$Text" "size" "I" ∈ AW := AW_of (in_tables_1_1 (List.mem_of_getElem? (i := 34) rfl)) rfl
theorem kw1_35 : Cond.fieldLink "TrainNote$Song" 28 "TrainNote$Text" "size" "I" ∈ AW := AW_of (in_tables_1_1 (List.mem_of_getElem? (i := 35) rfl)) rfl
theorem kw1_36 : Cond.fieldLink "TrainNote$Choir" 47 "TrainNote$Text" "size" "I" ∈ AW := AW_of (in_tables_1_1 (List.mem_of_getElem? (i := 36) rfl)) rfl
theorem kw1_37 : Cond.fieldLink "TrainNote" 91 "TrainNote$Text" "size" "I" ∈ AW := AW_of (in_tables_1_1 (List.mem_of_getElem? (i := 37) rfl)) rfl
theorem kw1_38 : Cond.laysFinal "TrainNote$Text" "TrainNote$Text" "bytes" "[I" ∈ AW := AW_of (in_tables_1_1 (List.mem_of_getElem? (i := 38) rfl)) rfl
theorem kw1_40 : Cond.laysFinal "TrainNote$Text" "TrainNote$Text" "room" "I" ∈ AW := AW_of (in_tables_1_1 (List.mem_of_getElem? (i := 40) rfl)) rfl
theorem kw1_42 : Cond.lays "TrainNote$Text" "TrainNote$Text" "size" "I" ∈ AW := AW_of (in_tables_1_1 (List.mem_of_getElem? (i := 42) rfl)) rfl
theorem kw1_45 : Cond.arrayClass .int ∈ AW := AW_of (in_tables_1_1 (List.mem_of_getElem? (i := 45) rfl)) rfl
theorem kw1_46 : Cond.classLink "TrainNote" 21 "TrainNote$Choir" ∈ AW := AW_of (in_tables_1_1 (List.mem_of_getElem? (i := 46) rfl)) rfl
theorem kw1_47 : Cond.instantiable "TrainNote$Choir" 9 ∈ AW := AW_of (in_tables_1_1 (List.mem_of_getElem? (i := 47) rfl)) rfl
theorem kw1_48 : Cond.methodLinkNest "TrainNote" 23 yX0_init "TrainNote" ∈ lw_tbl := in_tables_1_1 (List.mem_of_getElem? (i := 48) rfl)
theorem kw1_49 : Cond.instanceMethod yX0_init ∈ AW := AW_of (in_tables_1_1 (List.mem_of_getElem? (i := 49) rfl)) rfl
theorem kw1_50 : Cond.code yX0_init prog_2_method_1_code 1 none ∈ AW := AW_of (in_tables_1_1 (List.mem_of_getElem? (i := 50) rfl)) rfl
theorem kw1_51 : Cond.methodLink "TrainNote$Choir" 3 ⟨"java/lang/Object", "<init>", "()V"⟩ ∈ AW := AW_of (in_tables_1_1 (List.mem_of_getElem? (i := 51) rfl)) rfl
theorem kw1_52 : Cond.fieldLink "TrainNote$Choir" 9 "TrainNote$Choir" "size" "I" ∈ AW := AW_of (in_tables_1_1 (List.mem_of_getElem? (i := 52) rfl)) rfl
theorem kw1_53 : Cond.fieldLink "TrainNote" 165 "TrainNote$Choir" "size" "I" ∈ AW := AW_of (in_tables_1_1 (List.mem_of_getElem? (i := 53) rfl)) rfl
theorem kw1_54 : Cond.fieldLink "TrainNote$Choir" 15 "TrainNote$Choir" "place" "[I" ∈ AW := AW_of (in_tables_1_1 (List.mem_of_getElem? (i := 54) rfl)) rfl
theorem kw1_55 : Cond.fieldLink "TrainNote" 107 "TrainNote$Choir" "place" "[I" ∈ AW := AW_of (in_tables_1_1 (List.mem_of_getElem? (i := 55) rfl)) rfl
theorem kw1_56 : Cond.fieldLink "TrainNote$Choir" 19 "TrainNote$Choir" "wrong" "[I" ∈ AW := AW_of (in_tables_1_1 (List.mem_of_getElem? (i := 56) rfl)) rfl
theorem kw1_57 : Cond.fieldLink "TrainNote" 110 "TrainNote$Choir" "wrong" "[I" ∈ AW := AW_of (in_tables_1_1 (List.mem_of_getElem? (i := 57) rfl)) rfl
theorem kw1_58 : Cond.fieldLink "TrainNote$Choir" 22 "TrainNote$Choir" "sinks" "[I" ∈ AW := AW_of (in_tables_1_1 (List.mem_of_getElem? (i := 58) rfl)) rfl
theorem kw1_59 : Cond.fieldLink "TrainNote" 113 "TrainNote$Choir" "sinks" "[I" ∈ AW := AW_of (in_tables_1_1 (List.mem_of_getElem? (i := 59) rfl)) rfl
theorem kw1_60 : Cond.fieldLink "TrainNote$Choir" 25 "TrainNote$Choir" "hears" "[Z" ∈ AW := AW_of (in_tables_1_1 (List.mem_of_getElem? (i := 60) rfl)) rfl
theorem kw1_61 : Cond.fieldLink "TrainNote" 116 "TrainNote$Choir" "hears" "[Z" ∈ AW := AW_of (in_tables_1_1 (List.mem_of_getElem? (i := 61) rfl)) rfl
theorem kw1_62 : Cond.fieldLink "TrainNote$Choir" 29 "TrainNote$Choir" "source" "[I" ∈ AW := AW_of (in_tables_1_1 (List.mem_of_getElem? (i := 62) rfl)) rfl
theorem kw1_63 : Cond.fieldLink "TrainNote" 366 "TrainNote$Choir" "source" "[I" ∈ AW := AW_of (in_tables_1_1 (List.mem_of_getElem? (i := 63) rfl)) rfl
theorem kw1_64 : Cond.fieldLink "TrainNote$Choir" 32 "TrainNote$Choir" "error" "[I" ∈ AW := AW_of (in_tables_1_1 (List.mem_of_getElem? (i := 64) rfl)) rfl
theorem kw1_65 : Cond.fieldLink "TrainNote" 369 "TrainNote$Choir" "error" "[I" ∈ AW := AW_of (in_tables_1_1 (List.mem_of_getElem? (i := 65) rfl)) rfl
theorem kw1_66 : Cond.fieldLink "TrainNote$Choir" 35 "TrainNote$Choir" "neighbour" "[I" ∈ AW := AW_of (in_tables_1_1 (List.mem_of_getElem? (i := 66) rfl)) rfl
theorem kw1_67 : Cond.fieldLink "TrainNote" 138 "TrainNote$Choir" "neighbour" "[I" ∈ AW := AW_of (in_tables_1_1 (List.mem_of_getElem? (i := 67) rfl)) rfl
theorem kw1_68 : Cond.fieldLink "TrainNote$Choir" 38 "TrainNote$Choir" "steps" "[I" ∈ AW := AW_of (in_tables_1_1 (List.mem_of_getElem? (i := 68) rfl)) rfl
theorem kw1_69 : Cond.fieldLink "TrainNote" 141 "TrainNote$Choir" "steps" "[I" ∈ AW := AW_of (in_tables_1_1 (List.mem_of_getElem? (i := 69) rfl)) rfl
theorem kw1_70 : Cond.lays "TrainNote$Choir" "TrainNote$Choir" "size" "I" ∈ AW := AW_of (in_tables_1_1 (List.mem_of_getElem? (i := 70) rfl)) rfl
theorem kw1_72 : Cond.laysFinal "TrainNote$Choir" "TrainNote$Choir" "place" "[I" ∈ AW := AW_of (in_tables_1_1 (List.mem_of_getElem? (i := 72) rfl)) rfl
theorem kw1_74 : Cond.laysFinal "TrainNote$Choir" "TrainNote$Choir" "wrong" "[I" ∈ AW := AW_of (in_tables_1_1 (List.mem_of_getElem? (i := 74) rfl)) rfl
theorem kw1_76 : Cond.laysFinal "TrainNote$Choir" "TrainNote$Choir" "sinks" "[I" ∈ AW := AW_of (in_tables_1_1 (List.mem_of_getElem? (i := 76) rfl)) rfl
theorem kw1_78 : Cond.laysFinal "TrainNote$Choir" "TrainNote$Choir" "hears" "[Z" ∈ AW := AW_of (in_tables_1_1 (List.mem_of_getElem? (i := 78) rfl)) rfl
theorem kw1_80 : Cond.laysFinal "TrainNote$Choir" "TrainNote$Choir" "source" "[I" ∈ AW := AW_of (in_tables_1_1 (List.mem_of_getElem? (i := 80) rfl)) rfl
theorem kw1_82 : Cond.laysFinal "TrainNote$Choir" "TrainNote$Choir" "error" "[I" ∈ AW := AW_of (in_tables_1_1 (List.mem_of_getElem? (i := 82) rfl)) rfl
theorem kw1_84 : Cond.laysFinal "TrainNote$Choir" "TrainNote$Choir" "neighbour" "[I" ∈ AW := AW_of (in_tables_1_1 (List.mem_of_getElem? (i := 84) rfl)) rfl
theorem kw1_86 : Cond.laysFinal "TrainNote$Choir" "TrainNote$Choir" "steps" "[I" ∈ AW := AW_of (in_tables_1_1 (List.mem_of_getElem? (i := 86) rfl)) rfl
theorem kw1_89 : Cond.arrayClass .boolean ∈ AW := AW_of (in_tables_1_1 (List.mem_of_getElem? (i := 89) rfl)) rfl
theorem kw1_90 : Cond.classLink "TrainNote" 31 "TrainNote$Song" ∈ AW := AW_of (in_tables_1_1 (List.mem_of_getElem? (i := 90) rfl)) rfl
theorem kw1_91 : Cond.instantiable "TrainNote$Song" 3 ∈ AW := AW_of (in_tables_1_1 (List.mem_of_getElem? (i := 91) rfl)) rfl
theorem kw1_92 : Cond.methodLinkNest "TrainNote" 33 yX3_init "TrainNote" ∈ lw_tbl := in_tables_1_1 (List.mem_of_getElem? (i := 92) rfl)
theorem kw1_93 : Cond.instanceMethod yX3_init ∈ AW := AW_of (in_tables_1_1 (List.mem_of_getElem? (i := 93) rfl)) rfl
theorem kw1_94 : Cond.code yX3_init prog_5_method_1_code 1 none ∈ AW := AW_of (in_tables_1_1 (List.mem_of_getElem? (i := 94) rfl)) rfl
theorem kw1_95 : Cond.methodLink "TrainNote$Song" 3 ⟨"java/lang/Object", "<init>", "()V"⟩ ∈ AW := AW_of (in_tables_1_1 (List.mem_of_getElem? (i := 95) rfl)) rfl
theorem kw1_96 : Cond.fieldLink "TrainNote$Song" 9 "TrainNote$Song" "size" "I" ∈ AW := AW_of (in_tables_1_1 (List.mem_of_getElem? (i := 96) rfl)) rfl
theorem kw1_97 : Cond.fieldLink "TrainNote" 120 "TrainNote$Song" "size" "I" ∈ AW := AW_of (in_tables_1_1 (List.mem_of_getElem? (i := 97) rfl)) rfl
theorem kw1_98 : Cond.fieldLink "TrainNote$Song" 15 "TrainNote$Song" "kind" "[I" ∈ AW := AW_of (in_tables_1_1 (List.mem_of_getElem? (i := 98) rfl)) rfl
theorem kw1_99 : Cond.fieldLink "TrainNote" 121 "TrainNote$Song" "kind" "[I" ∈ AW := AW_of (in_tables_1_1 (List.mem_of_getElem? (i := 99) rfl)) rfl
theorem kw1_100 : Cond.fieldLink "TrainNote$Song" 19 "TrainNote$Song" "restsBefore" "[I" ∈ AW := AW_of (in_tables_1_1 (List.mem_of_getElem? (i := 100) rfl)) rfl
theorem kw1_101 : Cond.fieldLink "TrainNote" 147 "TrainNote$Song" "restsBefore" "[I" ∈ AW := AW_of (in_tables_1_1 (List.mem_of_getElem? (i := 101) rfl)) rfl
theorem kw1_102 : Cond.lays "TrainNote$Song" "TrainNote$Song" "size" "I" ∈ AW := AW_of (in_tables_1_1 (List.mem_of_getElem? (i := 102) rfl)) rfl
theorem kw1_104 : Cond.laysFinal "TrainNote$Song" "TrainNote$Song" "kind" "[I" ∈ AW := AW_of (in_tables_1_1 (List.mem_of_getElem? (i := 104) rfl)) rfl
theorem kw1_106 : Cond.laysFinal "TrainNote$Song" "TrainNote$Song" "restsBefore" "[I" ∈ AW := AW_of (in_tables_1_1 (List.mem_of_getElem? (i := 106) rfl)) rfl
theorem kw1_109 : Cond.classLink "TrainNote" 38 "TrainNote$Train" ∈ AW := AW_of (in_tables_1_1 (List.mem_of_getElem? (i := 109) rfl)) rfl
theorem kw1_110 : Cond.instantiable "TrainNote$Train" 4 ∈ AW := AW_of (in_tables_1_1 (List.mem_of_getElem? (i := 110) rfl)) rfl
theorem kw1_111 : Cond.methodLinkNest "TrainNote" 40 yX5_init "TrainNote" ∈ lw_tbl := in_tables_1_1 (List.mem_of_getElem? (i := 111) rfl)
theorem kw1_112 : Cond.instanceMethod yX5_init ∈ AW := AW_of (in_tables_1_1 (List.mem_of_getElem? (i := 112) rfl)) rfl
theorem kw1_113 : Cond.code yX5_init prog_7_method_1_code 1 none ∈ AW := AW_of (in_tables_1_1 (List.mem_of_getElem? (i := 113) rfl)) rfl
theorem kw1_114 : Cond.methodLink "TrainNote$Train" 1 ⟨"java/lang/Object", "<init>", "()V"⟩ ∈ AW := AW_of (in_tables_1_1 (List.mem_of_getElem? (i := 114) rfl)) rfl
theorem kw1_115 : Cond.fieldLink "TrainNote$Train" 7 "TrainNote$Train" "speed" "I" ∈ AW := AW_of (in_tables_1_1 (List.mem_of_getElem? (i := 115) rfl)) rfl
theorem kw1_116 : Cond.fieldLink "TrainNote" 198 "TrainNote$Train" "speed" "I" ∈ AW := AW_of (in_tables_1_1 (List.mem_of_getElem? (i := 116) rfl)) rfl
theorem kw1_117 : Cond.fieldLink "TrainNote$Train" 13 "TrainNote$Train" "early" "I" ∈ AW := AW_of (in_tables_1_1 (List.mem_of_getElem? (i := 117) rfl)) rfl
theorem kw1_118 : Cond.fieldLink "TrainNote" 227 "TrainNote$Train" "early" "I" ∈ AW := AW_of (in_tables_1_1 (List.mem_of_getElem? (i := 118) rfl)) rfl
theorem kw1_119 : Cond.fieldLink "TrainNote$Train" 16 "TrainNote$Train" "wind" "I" ∈ AW := AW_of (in_tables_1_1 (List.mem_of_getElem? (i := 119) rfl)) rfl
theorem kw1_120 : Cond.fieldLink "TrainNote" 260 "TrainNote$Train" "wind" "I" ∈ AW := AW_of (in_tables_1_1 (List.mem_of_getElem? (i := 120) rfl)) rfl
theorem kw1_121 : Cond.fieldLink "TrainNote$Train" 19 "TrainNote$Train" "close" "I" ∈ AW := AW_of (in_tables_1_1 (List.mem_of_getElem? (i := 121) rfl)) rfl
theorem kw1_122 : Cond.fieldLink "TrainNote" 375 "TrainNote$Train" "close" "I" ∈ AW := AW_of (in_tables_1_1 (List.mem_of_getElem? (i := 122) rfl)) rfl
theorem kw1_123 : Cond.lays "TrainNote$Train" "TrainNote$Train" "speed" "I" ∈ AW := AW_of (in_tables_1_1 (List.mem_of_getElem? (i := 123) rfl)) rfl
theorem kw1_125 : Cond.lays "TrainNote$Train" "TrainNote$Train" "early" "I" ∈ AW := AW_of (in_tables_1_1 (List.mem_of_getElem? (i := 125) rfl)) rfl
theorem kw1_127 : Cond.lays "TrainNote$Train" "TrainNote$Train" "wind" "I" ∈ AW := AW_of (in_tables_1_1 (List.mem_of_getElem? (i := 127) rfl)) rfl
theorem kw1_129 : Cond.lays "TrainNote$Train" "TrainNote$Train" "close" "I" ∈ AW := AW_of (in_tables_1_1 (List.mem_of_getElem? (i := 129) rfl)) rfl
theorem kw1_132 : Cond.classLink "TrainNote" 48 "TrainNote$Memory" ∈ AW := AW_of (in_tables_1_1 (List.mem_of_getElem? (i := 132) rfl)) rfl
theorem kw1_133 : Cond.instantiable "TrainNote$Memory" 4 ∈ AW := AW_of (in_tables_1_1 (List.mem_of_getElem? (i := 133) rfl)) rfl
theorem kw1_134 : Cond.methodLinkNest "TrainNote" 50 yX1_init "TrainNote" ∈ lw_tbl := in_tables_1_1 (List.mem_of_getElem? (i := 134) rfl)
theorem kw1_135 : Cond.instanceMethod yX1_init ∈ AW := AW_of (in_tables_1_1 (List.mem_of_getElem? (i := 135) rfl)) rfl
theorem kw1_136 : Cond.code yX1_init prog_3_method_1_code 1 none ∈ AW := AW_of (in_tables_1_1 (List.mem_of_getElem? (i := 136) rfl)) rfl
theorem kw1_137 : Cond.methodLink "TrainNote$Memory" 3 ⟨"java/lang/Object", "<init>", "()V"⟩ ∈ AW := AW_of (in_tables_1_1 (List.mem_of_getElem? (i := 137) rfl)) rfl
theorem kw1_138 : Cond.fieldLink "TrainNote$Memory" 9 "TrainNote$Memory" "size" "I" ∈ AW := AW_of (in_tables_1_1 (List.mem_of_getElem? (i := 138) rfl)) rfl
theorem kw1_139 : Cond.fieldLink "TrainNote" 210 "TrainNote$Memory" "size" "I" ∈ AW := AW_of (in_tables_1_1 (List.mem_of_getElem? (i := 139) rfl)) rfl
theorem kw1_140 : Cond.fieldLink "TrainNote$Memory" 15 "TrainNote$Memory" "bar" "[I" ∈ AW := AW_of (in_tables_1_1 (List.mem_of_getElem? (i := 140) rfl)) rfl
theorem kw1_141 : Cond.fieldLink "TrainNote" 395 "TrainNote$Memory" "bar" "[I" ∈ AW := AW_of (in_tables_1_1 (List.mem_of_getElem? (i := 141) rfl)) rfl
theorem kw1_142 : Cond.fieldLink "TrainNote$Memory" 19 "TrainNote$Memory" "singer" "[I" ∈ AW := AW_of (in_tables_1_1 (List.mem_of_getElem? (i := 142) rfl)) rfl
theorem kw1_143 : Cond.fieldLink "TrainNote" 393 "TrainNote$Memory" "singer" "[I" ∈ AW := AW_of (in_tables_1_1 (List.mem_of_getElem? (i := 143) rfl)) rfl
theorem kw1_144 : Cond.fieldLink "TrainNote$Memory" 22 "TrainNote$Memory" "note" "[I" ∈ AW := AW_of (in_tables_1_1 (List.mem_of_getElem? (i := 144) rfl)) rfl
theorem kw1_145 : Cond.fieldLink "TrainNote" 397 "TrainNote$Memory" "note" "[I" ∈ AW := AW_of (in_tables_1_1 (List.mem_of_getElem? (i := 145) rfl)) rfl
theorem kw1_146 : Cond.lays "TrainNote$Memory" "TrainNote$Memory" "size" "I" ∈ AW := AW_of (in_tables_1_1 (List.mem_of_getElem? (i := 146) rfl)) rfl
theorem kw1_148 : Cond.laysFinal "TrainNote$Memory" "TrainNote$Memory" "bar" "[I" ∈ AW := AW_of (in_tables_1_1 (List.mem_of_getElem? (i := 148) rfl)) rfl
theorem kw1_150 : Cond.laysFinal "TrainNote$Memory" "TrainNote$Memory" "singer" "[I" ∈ AW := AW_of (in_tables_1_1 (List.mem_of_getElem? (i := 150) rfl)) rfl
theorem kw1_152 : Cond.laysFinal "TrainNote$Memory" "TrainNote$Memory" "note" "[I" ∈ AW := AW_of (in_tables_1_1 (List.mem_of_getElem? (i := 152) rfl)) rfl
theorem kw1_155 : Cond.classLink "TrainNote" 55 "TrainNote$Sheet" ∈ AW := AW_of (in_tables_1_1 (List.mem_of_getElem? (i := 155) rfl)) rfl
theorem kw1_156 : Cond.arrayOver (.object "TrainNote$Sheet") ∈ lw_tbl := in_tables_1_1 (List.mem_of_getElem? (i := 156) rfl)
theorem kw1_157 : Cond.instantiable "TrainNote$Sheet" 3 ∈ AW := AW_of (in_tables_1_1 (List.mem_of_getElem? (i := 157) rfl)) rfl
theorem kw1_158 : Cond.methodLinkNest "TrainNote" 57 yX2_init "TrainNote" ∈ lw_tbl := in_tables_1_1 (List.mem_of_getElem? (i := 158) rfl)
theorem kw1_159 : Cond.instanceMethod yX2_init ∈ AW := AW_of (in_tables_1_1 (List.mem_of_getElem? (i := 159) rfl)) rfl
theorem kw1_160 : Cond.code yX2_init prog_4_method_1_code 1 none ∈ AW := AW_of (in_tables_1_1 (List.mem_of_getElem? (i := 160) rfl)) rfl
theorem kw1_161 : Cond.methodLink "TrainNote$Sheet" 3 ⟨"java/lang/Object", "<init>", "()V"⟩ ∈ AW := AW_of (in_tables_1_1 (List.mem_of_getElem? (i := 161) rfl)) rfl
theorem kw1_162 : Cond.fieldLink "TrainNote$Sheet" 9 "TrainNote$Sheet" "items" "[I" ∈ AW := AW_of (in_tables_1_1 (List.mem_of_getElem? (i := 162) rfl)) rfl
theorem kw1_163 : Cond.fieldLink "TrainNote" 221 "TrainNote$Sheet" "items" "[I" ∈ AW := AW_of (in_tables_1_1 (List.mem_of_getElem? (i := 163) rfl)) rfl
theorem kw1_164 : Cond.fieldLink "TrainNote$Sheet" 15 "TrainNote$Sheet" "form" "I" ∈ AW := AW_of (in_tables_1_1 (List.mem_of_getElem? (i := 164) rfl)) rfl
theorem kw1_165 : Cond.fieldLink "TrainNote" 276 "TrainNote$Sheet" "form" "I" ∈ AW := AW_of (in_tables_1_1 (List.mem_of_getElem? (i := 165) rfl)) rfl
theorem kw1_166 : Cond.fieldLink "TrainNote$Sheet" 19 "TrainNote$Sheet" "size" "I" ∈ AW := AW_of (in_tables_1_1 (List.mem_of_getElem? (i := 166) rfl)) rfl
theorem kw1_167 : Cond.fieldLink "TrainNote" 220 "TrainNote$Sheet" "size" "I" ∈ AW := AW_of (in_tables_1_1 (List.mem_of_getElem? (i := 167) rfl)) rfl
theorem kw1_168 : Cond.laysFinal "TrainNote$Sheet" "TrainNote$Sheet" "items" "[I" ∈ AW := AW_of (in_tables_1_1 (List.mem_of_getElem? (i := 168) rfl)) rfl
theorem kw1_170 : Cond.lays "TrainNote$Sheet" "TrainNote$Sheet" "form" "I" ∈ AW := AW_of (in_tables_1_1 (List.mem_of_getElem? (i := 170) rfl)) rfl
theorem kw1_172 : Cond.lays "TrainNote$Sheet" "TrainNote$Sheet" "size" "I" ∈ AW := AW_of (in_tables_1_1 (List.mem_of_getElem? (i := 172) rfl)) rfl
theorem kw1_175 : Cond.fieldLink "TrainNote" 14 "TrainNote" "singersText" "LTrainNote$Text;" ∈ AW := AW_of (in_tables_1_1 (List.mem_of_getElem? (i := 175) rfl)) rfl
theorem kw1_176 : Cond.fieldLink "TrainNote" 18 "TrainNote" "songText" "LTrainNote$Text;" ∈ AW := AW_of (in_tables_1_1 (List.mem_of_getElem? (i := 176) rfl)) rfl
theorem kw1_177 : Cond.fieldLink "TrainNote" 24 "TrainNote" "choir" "LTrainNote$Choir;" ∈ AW := AW_of (in_tables_1_1 (List.mem_of_getElem? (i := 177) rfl)) rfl
theorem kw1_178 : Cond.fieldLink "TrainNote" 28 "TrainNote" "moved" "LTrainNote$Choir;" ∈ AW := AW_of (in_tables_1_1 (List.mem_of_getElem? (i := 178) rfl)) rfl
theorem kw1_179 : Cond.fieldLink "TrainNote" 34 "TrainNote" "song" "LTrainNote$Song;" ∈ AW := AW_of (in_tables_1_1 (List.mem_of_getElem? (i := 179) rfl)) rfl
theorem kw1_180 : Cond.fieldLink "TrainNote" 41 "TrainNote" "train" "LTrainNote$Train;" ∈ AW := AW_of (in_tables_1_1 (List.mem_of_getElem? (i := 180) rfl)) rfl
theorem kw1_181 : Cond.fieldLink "TrainNote" 45 "TrainNote" "otherTrain" "LTrainNote$Train;" ∈ AW := AW_of (in_tables_1_1 (List.mem_of_getElem? (i := 181) rfl)) rfl
theorem kw1_182 : Cond.fieldLink "TrainNote" 51 "TrainNote" "memory" "LTrainNote$Memory;" ∈ AW := AW_of (in_tables_1_1 (List.mem_of_getElem? (i := 182) rfl)) rfl
theorem kw1_183 : Cond.fieldLink "TrainNote" 58 "TrainNote" "sheets" "[LTrainNote$Sheet;" ∈ AW := AW_of (in_tables_1_1 (List.mem_of_getElem? (i := 183) rfl)) rfl
theorem kw1_184 : Cond.fieldLink "TrainNote" 62 "TrainNote" "standing" "[I" ∈ AW := AW_of (in_tables_1_1 (List.mem_of_getElem? (i := 184) rfl)) rfl
theorem kw1_185 : Cond.fieldLink "TrainNote" 66 "TrainNote" "fittingSpeeds" "[I" ∈ AW := AW_of (in_tables_1_1 (List.mem_of_getElem? (i := 185) rfl)) rfl
theorem kw1_186 : Cond.fieldLink "TrainNote" 69 "TrainNote" "latestFinding" "I" ∈ AW := AW_of (in_tables_1_1 (List.mem_of_getElem? (i := 186) rfl)) rfl
theorem kw1_187 : Cond.laysFinal "TrainNote" "TrainNote" "singersText" "LTrainNote$Text;" ∈ AW := AW_of (in_tables_1_1 (List.mem_of_getElem? (i := 187) rfl)) rfl
theorem kw1_189 : Cond.laysFinal "TrainNote" "TrainNote" "songText" "LTrainNote$Text;" ∈ AW := AW_of (in_tables_1_1 (List.mem_of_getElem? (i := 189) rfl)) rfl
theorem kw1_191 : Cond.laysFinal "TrainNote" "TrainNote" "choir" "LTrainNote$Choir;" ∈ AW := AW_of (in_tables_1_1 (List.mem_of_getElem? (i := 191) rfl)) rfl
theorem kw1_193 : Cond.laysFinal "TrainNote" "TrainNote" "moved" "LTrainNote$Choir;" ∈ AW := AW_of (in_tables_1_1 (List.mem_of_getElem? (i := 193) rfl)) rfl
theorem kw1_195 : Cond.laysFinal "TrainNote" "TrainNote" "song" "LTrainNote$Song;" ∈ AW := AW_of (in_tables_1_1 (List.mem_of_getElem? (i := 195) rfl)) rfl
theorem kw1_197 : Cond.laysFinal "TrainNote" "TrainNote" "train" "LTrainNote$Train;" ∈ AW := AW_of (in_tables_1_1 (List.mem_of_getElem? (i := 197) rfl)) rfl
theorem kw1_199 : Cond.laysFinal "TrainNote" "TrainNote" "otherTrain" "LTrainNote$Train;" ∈ AW := AW_of (in_tables_1_1 (List.mem_of_getElem? (i := 199) rfl)) rfl
theorem kw1_201 : Cond.laysFinal "TrainNote" "TrainNote" "memory" "LTrainNote$Memory;" ∈ AW := AW_of (in_tables_1_1 (List.mem_of_getElem? (i := 201) rfl)) rfl
theorem kw1_203 : Cond.laysFinal "TrainNote" "TrainNote" "sheets" "[LTrainNote$Sheet;" ∈ AW := AW_of (in_tables_1_1 (List.mem_of_getElem? (i := 203) rfl)) rfl
theorem kw1_205 : Cond.laysFinal "TrainNote" "TrainNote" "standing" "[I" ∈ AW := AW_of (in_tables_1_1 (List.mem_of_getElem? (i := 205) rfl)) rfl
theorem kw1_207 : Cond.laysFinal "TrainNote" "TrainNote" "fittingSpeeds" "[I" ∈ AW := AW_of (in_tables_1_1 (List.mem_of_getElem? (i := 207) rfl)) rfl
theorem kw1_209 : Cond.lays "TrainNote" "TrainNote" "latestFinding" "I" ∈ AW := AW_of (in_tables_1_1 (List.mem_of_getElem? (i := 209) rfl)) rfl
theorem kw1_212 : Cond.methodLink "TrainNoteLaw" 13 yX6_type ∈ AW := AW_of (in_tables_1_1 (List.mem_of_getElem? (i := 212) rfl)) rfl
theorem kw1_213 : Cond.instanceMethod yX6_type ∈ AW := AW_of (in_tables_1_1 (List.mem_of_getElem? (i := 213) rfl)) rfl
theorem kw1_214 : Cond.selects "TrainNote" yX6_type yX6_type ∈ AW := AW_of (in_tables_1_1 (List.mem_of_getElem? (i := 214) rfl)) rfl
theorem kw1_215 : Cond.code yX6_type prog_1_method_2_code 4 (some .int) ∈ AW := AW_of (in_tables_1_1 (List.mem_of_getElem? (i := 215) rfl)) rfl
theorem kw1_216 : Cond.methodLink "TrainNote" 73 yX6_isNoText ∈ AW := AW_of (in_tables_1_1 (List.mem_of_getElem? (i := 216) rfl)) rfl
theorem kw1_217 : Cond.static yX6_isNoText ∈ AW := AW_of (in_tables_1_1 (List.mem_of_getElem? (i := 217) rfl)) rfl
theorem kw1_218 : Cond.code yX6_isNoText prog_1_method_37_code 1 (some .boolean) ∈ AW := AW_of (in_tables_1_1 (List.mem_of_getElem? (i := 218) rfl)) rfl
theorem kw1_219 : Cond.methodLink "TrainNote" 77 yX6_textOf ∈ AW := AW_of (in_tables_1_1 (List.mem_of_getElem? (i := 219) rfl)) rfl
theorem kw1_221 : Cond.instanceMethod yX6_textOf ∈ AW := AW_of (in_tables_1_1 (List.mem_of_getElem? (i := 221) rfl)) rfl
theorem kw1_222 : Cond.code yX6_textOf prog_1_method_44_code 2 (some (.object "TrainNote$Text")) ∈ AW := AW_of (in_tables_1_1 (List.mem_of_getElem? (i := 222) rfl)) rfl
theorem kw1_223 : Cond.methodLink "TrainNote" 81 yX4_isFull ∈ AW := AW_of (in_tables_1_1 (List.mem_of_getElem? (i := 223) rfl)) rfl
theorem kw1_224 : Cond.instanceMethod yX4_isFull ∈ AW := AW_of (in_tables_1_1 (List.mem_of_getElem? (i := 224) rfl)) rfl
theorem kw1_225 : Cond.selects "TrainNote$Text" yX4_isFull yX4_isFull ∈ AW := AW_of (in_tables_1_1 (List.mem_of_getElem? (i := 225) rfl)) rfl
theorem kw1_226 : Cond.code yX4_isFull prog_6_method_2_code 1 (some .boolean) ∈ AW := AW_of (in_tables_1_1 (List.mem_of_getElem? (i := 226) rfl)) rfl
theorem kw1_227 : Cond.methodLink "TrainNote" 85 yX4_append ∈ AW := AW_of (in_tables_1_1 (List.mem_of_getElem? (i := 227) rfl)) rfl
theorem kw1_228 : Cond.instanceMethod yX4_append ∈ AW := AW_of (in_tables_1_1 (List.mem_of_getElem? (i := 228) rfl)) rfl
theorem kw1_229 : Cond.selects "TrainNote$Text" yX4_append yX4_append ∈ AW := AW_of (in_tables_1_1 (List.mem_of_getElem? (i := 229) rfl)) rfl
theorem kw1_230 : Cond.code yX4_append prog_6_method_3_code 2 none ∈ AW := AW_of (in_tables_1_1 (List.mem_of_getElem? (i := 230) rfl)) rfl
theorem kw1_231 : Cond.methodLink "TrainNote$Text" 28 yX4_isFull ∈ AW := AW_of (in_tables_1_1 (List.mem_of_getElem? (i := 231) rfl)) rfl
theorem kw1_232 : Cond.methodLink "TrainNote" 88 yX6_parse ∈ AW := AW_of (in_tables_1_1 (List.mem_of_getElem? (i := 232) rfl)) rfl
theorem kw1_234 : Cond.instanceMethod yX6_parse ∈ AW := AW_of (in_tables_1_1 (List.mem_of_getElem? (i := 234) rfl)) rfl
theorem kw1_235 : Cond.code yX6_parse prog_1_method_45_code 2 none ∈ AW := AW_of (in_tables_1_1 (List.mem_of_getElem? (i := 235) rfl)) rfl
theorem kw1_236 : Cond.methodLink "TrainNote" 362 yX0_parse ∈ AW := AW_of (in_tables_1_1 (List.mem_of_getElem? (i := 236) rfl)) rfl
theorem kw1_237 : Cond.instanceMethod yX0_parse ∈ AW := AW_of (in_tables_1_1 (List.mem_of_getElem? (i := 237) rfl)) rfl
theorem kw1_238 : Cond.selects "TrainNote$Choir" yX0_parse yX0_parse ∈ AW := AW_of (in_tables_1_1 (List.mem_of_getElem? (i := 238) rfl)) rfl
theorem kw1_239 : Cond.code yX0_parse prog_2_method_2_code 3 none ∈ AW := AW_of (in_tables_1_1 (List.mem_of_getElem? (i := 239) rfl)) rfl
theorem in_tables_1_2 {w : Cond} (h : w ∈ tables_1_2) : w ∈ lw_tbl := List.mem_append_right _ (List.mem_append_right _ (List.mem_append_left _ h))
theorem kw2_0 : Cond.methodLink "TrainNote$Choir" 41 yX4_faultOfSingers ∈ AW := AW_of (in_tables_1_2 (List.mem_of_getElem? (i := 0) rfl)) rfl
theorem kw2_1 : Cond.instanceMethod yX4_faultOfSingers ∈ AW := AW_of (in_tables_1_2 (List.mem_of_getElem? (i := 1) rfl)) rfl
theorem kw2_2 : Cond.selects "TrainNote$Text" yX4_faultOfSingers yX4_faultOfSingers ∈ AW := AW_of (in_tables_1_2 (List.mem_of_getElem? (i := 2) rfl)) rfl
theorem kw2_3 : Cond.code yX4_faultOfSingers prog_6_method_5_code 2 (some .int) ∈ AW := AW_of (in_tables_1_2 (List.mem_of_getElem? (i := 3) rfl)) rfl
theorem kw2_4 : Cond.methodLink "TrainNote$Text" 35 yX4_fitsSinger ∈ AW := AW_of (in_tables_1_2 (List.mem_of_getElem? (i := 4) rfl)) rfl
theorem kw2_5 : Cond.static yX4_fitsSinger ∈ AW := AW_of (in_tables_1_2 (List.mem_of_getElem? (i := 5) rfl)) rfl
theorem kw2_6 : Cond.code yX4_fitsSinger prog_6_method_7_code 2 (some .boolean) ∈ AW := AW_of (in_tables_1_2 (List.mem_of_getElem? (i := 6) rfl)) rfl
theorem kw2_7 : Cond.methodLink "TrainNote$Choir" 51 yX0_link ∈ AW := AW_of (in_tables_1_2 (List.mem_of_getElem? (i := 7) rfl)) rfl
theorem kw2_8 : Cond.instanceMethod yX0_link ∈ AW := AW_of (in_tables_1_2 (List.mem_of_getElem? (i := 8) rfl)) rfl
theorem kw2_9 : Cond.selects "TrainNote$Choir" yX0_link yX0_link ∈ AW := AW_of (in_tables_1_2 (List.mem_of_getElem? (i := 9) rfl)) rfl
theorem kw2_10 : Cond.code yX0_link prog_2_method_4_code 2 none ∈ AW := AW_of (in_tables_1_2 (List.mem_of_getElem? (i := 10) rfl)) rfl
theorem kw2_11 : Cond.methodLink "TrainNote$Choir" 54 yX0_nearestTo ∈ AW := AW_of (in_tables_1_2 (List.mem_of_getElem? (i := 11) rfl)) rfl
theorem kw2_13 : Cond.instanceMethod yX0_nearestTo ∈ AW := AW_of (in_tables_1_2 (List.mem_of_getElem? (i := 13) rfl)) rfl
theorem kw2_14 : Cond.code yX0_nearestTo prog_2_method_5_code 6 (some .int) ∈ AW := AW_of (in_tables_1_2 (List.mem_of_getElem? (i := 14) rfl)) rfl
theorem kw2_15 : Cond.methodLink "TrainNote$Choir" 62 yJ9_abs_0f7a4 ∈ AW := AW_of (in_tables_1_2 (List.mem_of_getElem? (i := 15) rfl)) rfl
theorem kw2_16 : Cond.static yJ9_abs_0f7a4 ∈ AW := AW_of (in_tables_1_2 (List.mem_of_getElem? (i := 16) rfl)) rfl
theorem kw2_17 : Cond.code yJ9_abs_0f7a4 prog_11_method_59_code 1 (some .int) ∈ AW := AW_of (in_tables_1_2 (List.mem_of_getElem? (i := 17) rfl)) rfl
theorem kw2_18 : Cond.methodLink "TrainNote$Choir" 58 yX0_follow ∈ AW := AW_of (in_tables_1_2 (List.mem_of_getElem? (i := 18) rfl)) rfl
theorem kw2_20 : Cond.instanceMethod yX0_follow ∈ AW := AW_of (in_tables_1_2 (List.mem_of_getElem? (i := 20) rfl)) rfl
theorem kw2_21 : Cond.code yX0_follow prog_2_method_6_code 5 none ∈ AW := AW_of (in_tables_1_2 (List.mem_of_getElem? (i := 21) rfl)) rfl
theorem kw2_22 : Cond.methodLink "TrainNote" 365 yX3_parse ∈ AW := AW_of (in_tables_1_2 (List.mem_of_getElem? (i := 22) rfl)) rfl
theorem kw2_23 : Cond.instanceMethod yX3_parse ∈ AW := AW_of (in_tables_1_2 (List.mem_of_getElem? (i := 23) rfl)) rfl
theorem kw2_24 : Cond.selects "TrainNote$Song" yX3_parse yX3_parse ∈ AW := AW_of (in_tables_1_2 (List.mem_of_getElem? (i := 24) rfl)) rfl
theorem kw2_25 : Cond.code yX3_parse prog_5_method_2_code 4 none ∈ AW := AW_of (in_tables_1_2 (List.mem_of_getElem? (i := 25) rfl)) rfl
theorem kw2_26 : Cond.methodLink "TrainNote$Song" 22 yX4_faultOfSong ∈ AW := AW_of (in_tables_1_2 (List.mem_of_getElem? (i := 26) rfl)) rfl
theorem kw2_27 : Cond.instanceMethod yX4_faultOfSong ∈ AW := AW_of (in_tables_1_2 (List.mem_of_getElem? (i := 27) rfl)) rfl
theorem kw2_28 : Cond.selects "TrainNote$Text" yX4_faultOfSong yX4_faultOfSong ∈ AW := AW_of (in_tables_1_2 (List.mem_of_getElem? (i := 28) rfl)) rfl
theorem kw2_29 : Cond.code yX4_faultOfSong prog_6_method_6_code 2 (some .int) ∈ AW := AW_of (in_tables_1_2 (List.mem_of_getElem? (i := 29) rfl)) rfl
theorem kw2_30 : Cond.methodLink "TrainNote$Song" 29 yJ9_min_7cf53 ∈ AW := AW_of (in_tables_1_2 (List.mem_of_getElem? (i := 30) rfl)) rfl
theorem kw2_31 : Cond.methodLink "TrainNote$Song" 38 yX3_kindOf ∈ AW := AW_of (in_tables_1_2 (List.mem_of_getElem? (i := 31) rfl)) rfl
theorem kw2_32 : Cond.static yX3_kindOf ∈ AW := AW_of (in_tables_1_2 (List.mem_of_getElem? (i := 32) rfl)) rfl
theorem kw2_33 : Cond.code yX3_kindOf prog_5_method_3_code 1 (some .int) ∈ AW := AW_of (in_tables_1_2 (List.mem_of_getElem? (i := 33) rfl)) rfl
theorem kw2_34 : Cond.methodLink "TrainNoteLaw" 18 yX6_wipe ∈ AW := AW_of (in_tables_1_2 (List.mem_of_getElem? (i := 34) rfl)) rfl
theorem kw2_35 : Cond.instanceMethod yX6_wipe ∈ AW := AW_of (in_tables_1_2 (List.mem_of_getElem? (i := 35) rfl)) rfl
theorem kw2_36 : Cond.selects "TrainNote" yX6_wipe yX6_wipe ∈ AW := AW_of (in_tables_1_2 (List.mem_of_getElem? (i := 36) rfl)) rfl
theorem kw2_37 : Cond.code yX6_wipe prog_1_method_3_code 4 (some .int) ∈ AW := AW_of (in_tables_1_2 (List.mem_of_getElem? (i := 37) rfl)) rfl
theorem kw2_38 : Cond.methodLink "TrainNote" 94 yX4_shorten ∈ AW := AW_of (in_tables_1_2 (List.mem_of_getElem? (i := 38) rfl)) rfl
theorem kw2_39 : Cond.instanceMethod yX4_shorten ∈ AW := AW_of (in_tables_1_2 (List.mem_of_getElem? (i := 39) rfl)) rfl
theorem kw2_40 : Cond.selects "TrainNote$Text" yX4_shorten yX4_shorten ∈ AW := AW_of (in_tables_1_2 (List.mem_of_getElem? (i := 40) rfl)) rfl
theorem kw2_41 : Cond.code yX4_shorten prog_6_method_4_code 2 none ∈ AW := AW_of (in_tables_1_2 (List.mem_of_getElem? (i := 41) rfl)) rfl
theorem kw2_42 : Cond.methodLink "TrainNote$Text" 32 yJ9_max_7cf53 ∈ AW := AW_of (in_tables_1_2 (List.mem_of_getElem? (i := 42) rfl)) rfl
theorem kw2_43 : Cond.static yJ9_max_7cf53 ∈ AW := AW_of (in_tables_1_2 (List.mem_of_getElem? (i := 43) rfl)) rfl
theorem kw2_44 : Cond.code yJ9_max_7cf53 prog_11_method_65_code 2 (some .int) ∈ AW := AW_of (in_tables_1_2 (List.mem_of_getElem? (i := 44) rfl)) rfl
theorem kw2_45 : Cond.methodLink "TrainNoteLaw" 23 yX6_undo ∈ AW := AW_of (in_tables_1_2 (List.mem_of_getElem? (i := 45) rfl)) rfl
theorem kw2_46 : Cond.instanceMethod yX6_undo ∈ AW := AW_of (in_tables_1_2 (List.mem_of_getElem? (i := 46) rfl)) rfl
theorem kw2_47 : Cond.selects "TrainNote" yX6_undo yX6_undo ∈ AW := AW_of (in_tables_1_2 (List.mem_of_getElem? (i := 47) rfl)) rfl
theorem kw2_48 : Cond.code yX6_undo prog_1_method_4_code 3 (some .int) ∈ AW := AW_of (in_tables_1_2 (List.mem_of_getElem? (i := 48) rfl)) rfl
theorem kw2_49 : Cond.methodLink "TrainNoteLaw" 27 yX6_fault ∈ AW := AW_of (in_tables_1_2 (List.mem_of_getElem? (i := 49) rfl)) rfl
theorem kw2_50 : Cond.instanceMethod yX6_fault ∈ AW := AW_of (in_tables_1_2 (List.mem_of_getElem? (i := 50) rfl)) rfl
theorem kw2_51 : Cond.selects "TrainNote" yX6_fault yX6_fault ∈ AW := AW_of (in_tables_1_2 (List.mem_of_getElem? (i := 51) rfl)) rfl
theorem kw2_52 : Cond.code yX6_fault prog_1_method_5_code 2 (some .int) ∈ AW := AW_of (in_tables_1_2 (List.mem_of_getElem? (i := 52) rfl)) rfl
theorem kw2_53 : Cond.methodLink "TrainNote" 97 yX4_faultOfSingers ∈ AW := AW_of (in_tables_1_2 (List.mem_of_getElem? (i := 53) rfl)) rfl
theorem kw2_54 : Cond.methodLink "TrainNote" 101 yX4_faultOfSong ∈ AW := AW_of (in_tables_1_2 (List.mem_of_getElem? (i := 54) rfl)) rfl
theorem kw2_55 : Cond.methodLink "TrainNoteLaw" 31 yX6_singer ∈ AW := AW_of (in_tables_1_2 (List.mem_of_getElem? (i := 55) rfl)) rfl
theorem kw2_56 : Cond.instanceMethod yX6_singer ∈ AW := AW_of (in_tables_1_2 (List.mem_of_getElem? (i := 56) rfl)) rfl
theorem kw2_57 : Cond.selects "TrainNote" yX6_singer yX6_singer ∈ AW := AW_of (in_tables_1_2 (List.mem_of_getElem? (i := 57) rfl)) rfl
theorem kw2_58 : Cond.code yX6_singer prog_1_method_6_code 3 (some .int) ∈ AW := AW_of (in_tables_1_2 (List.mem_of_getElem? (i := 58) rfl)) rfl
theorem kw2_59 : Cond.methodLink "TrainNote" 104 yX6_isNoSinger ∈ AW := AW_of (in_tables_1_2 (List.mem_of_getElem? (i := 59) rfl)) rfl
theorem kw2_61 : Cond.instanceMethod yX6_isNoSinger ∈ AW := AW_of (in_tables_1_2 (List.mem_of_getElem? (i := 61) rfl)) rfl
theorem kw2_62 : Cond.code yX6_isNoSinger prog_1_method_41_code 2 (some .boolean) ∈ AW := AW_of (in_tables_1_2 (List.mem_of_getElem? (i := 62) rfl)) rfl
theorem kw2_63 : Cond.methodLink "TrainNoteLaw" 35 yX6_bar ∈ AW := AW_of (in_tables_1_2 (List.mem_of_getElem? (i := 63) rfl)) rfl
theorem kw2_64 : Cond.instanceMethod yX6_bar ∈ AW := AW_of (in_tables_1_2 (List.mem_of_getElem? (i := 64) rfl)) rfl
theorem kw2_65 : Cond.selects "TrainNote" yX6_bar yX6_bar ∈ AW := AW_of (in_tables_1_2 (List.mem_of_getElem? (i := 65) rfl)) rfl
theorem kw2_66 : Cond.code yX6_bar prog_1_method_7_code 2 (some .int) ∈ AW := AW_of (in_tables_1_2 (List.mem_of_getElem? (i := 66) rfl)) rfl
theorem kw2_67 : Cond.methodLink "TrainNoteLaw" 39 yX6_set ∈ AW := AW_of (in_tables_1_2 (List.mem_of_getElem? (i := 67) rfl)) rfl
theorem kw2_68 : Cond.instanceMethod yX6_set ∈ AW := AW_of (in_tables_1_2 (List.mem_of_getElem? (i := 68) rfl)) rfl
theorem kw2_69 : Cond.selects "TrainNote" yX6_set yX6_set ∈ AW := AW_of (in_tables_1_2 (List.mem_of_getElem? (i := 69) rfl)) rfl
theorem kw2_70 : Cond.code yX6_set prog_1_method_8_code 3 (some .int) ∈ AW := AW_of (in_tables_1_2 (List.mem_of_getElem? (i := 70) rfl)) rfl
theorem kw2_71 : Cond.fieldLink "TrainNote" 124 "TrainNote" "SETTINGS" "[I" ∈ AW := AW_of (in_tables_1_2 (List.mem_of_getElem? (i := 71) rfl)) rfl
theorem kw2_72 : Cond.laysStatic "TrainNote" "SETTINGS" "[I" ∈ lw_tbl := in_tables_1_2 (List.mem_of_getElem? (i := 72) rfl)
theorem kw2_73 : Cond.methodLink "TrainNote" 127 yX5_change ∈ AW := AW_of (in_tables_1_2 (List.mem_of_getElem? (i := 73) rfl)) rfl
theorem kw2_74 : Cond.instanceMethod yX5_change ∈ AW := AW_of (in_tables_1_2 (List.mem_of_getElem? (i := 74) rfl)) rfl
theorem kw2_75 : Cond.selects "TrainNote$Train" yX5_change yX5_change ∈ AW := AW_of (in_tables_1_2 (List.mem_of_getElem? (i := 75) rfl)) rfl
theorem kw2_76 : Cond.code yX5_change prog_7_method_4_code 4 (some .int) ∈ AW := AW_of (in_tables_1_2 (List.mem_of_getElem? (i := 76) rfl)) rfl
theorem kw2_77 : Cond.methodLink "TrainNoteLaw" 43 yX6_whistle ∈ AW := AW_of (in_tables_1_2 (List.mem_of_getElem? (i := 77) rfl)) rfl
theorem kw2_78 : Cond.instanceMethod yX6_whistle ∈ AW := AW_of (in_tables_1_2 (List.mem_of_getElem? (i := 78) rfl)) rfl
theorem kw2_79 : Cond.selects "TrainNote" yX6_whistle yX6_whistle ∈ AW := AW_of (in_tables_1_2 (List.mem_of_getElem? (i := 79) rfl)) rfl
theorem kw2_80 : Cond.code yX6_whistle prog_1_method_9_code 2 (some .int) ∈ AW := AW_of (in_tables_1_2 (List.mem_of_getElem? (i := 80) rfl)) rfl
theorem kw2_81 : Cond.methodLink "TrainNote" 131 yX5_pitchAt ∈ AW := AW_of (in_tables_1_2 (List.mem_of_getElem? (i := 81) rfl)) rfl
theorem kw2_82 : Cond.instanceMethod yX5_pitchAt ∈ AW := AW_of (in_tables_1_2 (List.mem_of_getElem? (i := 82) rfl)) rfl
theorem kw2_83 : Cond.selects "TrainNote$Train" yX5_pitchAt yX5_pitchAt ∈ AW := AW_of (in_tables_1_2 (List.mem_of_getElem? (i := 83) rfl)) rfl
theorem kw2_84 : Cond.code yX5_pitchAt prog_7_method_2_code 2 (some .int) ∈ AW := AW_of (in_tables_1_2 (List.mem_of_getElem? (i := 84) rfl)) rfl
theorem kw2_85 : Cond.methodLink "TrainNoteLaw" 47 yX6_ear ∈ AW := AW_of (in_tables_1_2 (List.mem_of_getElem? (i := 85) rfl)) rfl
theorem kw2_86 : Cond.instanceMethod yX6_ear ∈ AW := AW_of (in_tables_1_2 (List.mem_of_getElem? (i := 86) rfl)) rfl
theorem kw2_87 : Cond.selects "TrainNote" yX6_ear yX6_ear ∈ AW := AW_of (in_tables_1_2 (List.mem_of_getElem? (i := 87) rfl)) rfl
theorem kw2_88 : Cond.code yX6_ear prog_1_method_10_code 3 (some .int) ∈ AW := AW_of (in_tables_1_2 (List.mem_of_getElem? (i := 88) rfl)) rfl
theorem kw2_89 : Cond.methodLink "TrainNote" 135 yX6_isNoChoice ∈ AW := AW_of (in_tables_1_2 (List.mem_of_getElem? (i := 89) rfl)) rfl
theorem kw2_90 : Cond.static yX6_isNoChoice ∈ AW := AW_of (in_tables_1_2 (List.mem_of_getElem? (i := 90) rfl)) rfl
theorem kw2_91 : Cond.code yX6_isNoChoice prog_1_method_38_code 1 (some .boolean) ∈ AW := AW_of (in_tables_1_2 (List.mem_of_getElem? (i := 91) rfl)) rfl
theorem kw2_92 : Cond.methodLink "TrainNoteLaw" 51 yX6_note ∈ AW := AW_of (in_tables_1_2 (List.mem_of_getElem? (i := 92) rfl)) rfl
theorem kw2_93 : Cond.instanceMethod yX6_note ∈ AW := AW_of (in_tables_1_2 (List.mem_of_getElem? (i := 93) rfl)) rfl
theorem kw2_94 : Cond.selects "TrainNote" yX6_note yX6_note ∈ AW := AW_of (in_tables_1_2 (List.mem_of_getElem? (i := 94) rfl)) rfl
theorem kw2_95 : Cond.code yX6_note prog_1_method_11_code 3 (some .int) ∈ AW := AW_of (in_tables_1_2 (List.mem_of_getElem? (i := 95) rfl)) rfl
theorem kw2_96 : Cond.methodLink "TrainNote" 144 yX6_isNoBar ∈ AW := AW_of (in_tables_1_2 (List.mem_of_getElem? (i := 96) rfl)) rfl
theorem kw2_98 : Cond.instanceMethod yX6_isNoBar ∈ AW := AW_of (in_tables_1_2 (List.mem_of_getElem? (i := 98) rfl)) rfl
theorem kw2_99 : Cond.code yX6_isNoBar prog_1_method_42_code 2 (some .boolean) ∈ AW := AW_of (in_tables_1_2 (List.mem_of_getElem? (i := 99) rfl)) rfl
theorem kw2_100 : Cond.methodLink "TrainNote" 150 yX6_noteBehind ∈ AW := AW_of (in_tables_1_2 (List.mem_of_getElem? (i := 100) rfl)) rfl
theorem kw2_101 : Cond.static yX6_noteBehind ∈ AW := AW_of (in_tables_1_2 (List.mem_of_getElem? (i := 101) rfl)) rfl
theorem kw2_102 : Cond.code yX6_noteBehind prog_1_method_46_code 5 (some .int) ∈ AW := AW_of (in_tables_1_2 (List.mem_of_getElem? (i := 102) rfl)) rfl
theorem kw2_103 : Cond.methodLink "TrainNoteLaw" 55 yX6_away ∈ AW := AW_of (in_tables_1_2 (List.mem_of_getElem? (i := 103) rfl)) rfl
theorem kw2_104 : Cond.instanceMethod yX6_away ∈ AW := AW_of (in_tables_1_2 (List.mem_of_getElem? (i := 104) rfl)) rfl
theorem kw2_105 : Cond.selects "TrainNote" yX6_away yX6_away ∈ AW := AW_of (in_tables_1_2 (List.mem_of_getElem? (i := 105) rfl)) rfl
theorem kw2_106 : Cond.code yX6_away prog_1_method_12_code 4 (some .int) ∈ AW := AW_of (in_tables_1_2 (List.mem_of_getElem? (i := 106) rfl)) rfl
theorem kw2_107 : Cond.methodLink "TrainNoteLaw" 59 yX6_chord ∈ AW := AW_of (in_tables_1_2 (List.mem_of_getElem? (i := 107) rfl)) rfl
theorem kw2_108 : Cond.instanceMethod yX6_chord ∈ AW := AW_of (in_tables_1_2 (List.mem_of_getElem? (i := 108) rfl)) rfl
theorem kw2_109 : Cond.selects "TrainNote" yX6_chord yX6_chord ∈ AW := AW_of (in_tables_1_2 (List.mem_of_getElem? (i := 109) rfl)) rfl
theorem kw2_110 : Cond.code yX6_chord prog_1_method_13_code 3 (some .int) ∈ AW := AW_of (in_tables_1_2 (List.mem_of_getElem? (i := 110) rfl)) rfl
theorem kw2_111 : Cond.methodLink "TrainNote" 154 yX6_spreadOf ∈ AW := AW_of (in_tables_1_2 (List.mem_of_getElem? (i := 111) rfl)) rfl
theorem kw2_113 : Cond.instanceMethod yX6_spreadOf ∈ AW := AW_of (in_tables_1_2 (List.mem_of_getElem? (i := 113) rfl)) rfl
theorem kw2_114 : Cond.code yX6_spreadOf prog_1_method_47_code 9 (some .int) ∈ AW := AW_of (in_tables_1_2 (List.mem_of_getElem? (i := 114) rfl)) rfl
theorem kw2_115 : Cond.methodLink "TrainNote" 166 yJ9_min_7cf53 ∈ AW := AW_of (in_tables_1_2 (List.mem_of_getElem? (i := 115) rfl)) rfl
theorem kw2_116 : Cond.methodLink "TrainNote" 372 yJ9_max_7cf53 ∈ AW := AW_of (in_tables_1_2 (List.mem_of_getElem? (i := 116) rfl)) rfl
theorem kw2_117 : Cond.methodLink "TrainNote" 158 yX6_closes ∈ AW := AW_of (in_tables_1_2 (List.mem_of_getElem? (i := 117) rfl)) rfl
theorem kw2_119 : Cond.instanceMethod yX6_closes ∈ AW := AW_of (in_tables_1_2 (List.mem_of_getElem? (i := 119) rfl)) rfl
theorem kw2_120 : Cond.code yX6_closes prog_1_method_48_code 3 (some .boolean) ∈ AW := AW_of (in_tables_1_2 (List.mem_of_getElem? (i := 120) rfl)) rfl
theorem kw2_121 : Cond.methodLink "TrainNote" 237 yX6_isSung ∈ AW := AW_of (in_tables_1_2 (List.mem_of_getElem? (i := 121) rfl)) rfl
theorem kw2_123 : Cond.instanceMethod yX6_isSung ∈ AW := AW_of (in_tables_1_2 (List.mem_of_getElem? (i := 123) rfl)) rfl
theorem kw2_124 : Cond.code yX6_isSung prog_1_method_43_code 2 (some .boolean) ∈ AW := AW_of (in_tables_1_2 (List.mem_of_getElem? (i := 124) rfl)) rfl
theorem kw2_125 : Cond.methodLink "TrainNote" 162 yX6_flattestIn ∈ AW := AW_of (in_tables_1_2 (List.mem_of_getElem? (i := 125) rfl)) rfl
theorem kw2_127 : Cond.instanceMethod yX6_flattestIn ∈ AW := AW_of (in_tables_1_2 (List.mem_of_getElem? (i := 127) rfl)) rfl
theorem kw2_128 : Cond.code yX6_flattestIn prog_1_method_49_code 7 (some .int) ∈ AW := AW_of (in_tables_1_2 (List.mem_of_getElem? (i := 128) rfl)) rfl
theorem kw2_129 : Cond.methodLink "TrainNoteLaw" 63 yX6_open ∈ AW := AW_of (in_tables_1_2 (List.mem_of_getElem? (i := 129) rfl)) rfl
theorem kw2_130 : Cond.instanceMethod yX6_open ∈ AW := AW_of (in_tables_1_2 (List.mem_of_getElem? (i := 130) rfl)) rfl
theorem kw2_131 : Cond.selects "TrainNote" yX6_open yX6_open ∈ AW := AW_of (in_tables_1_2 (List.mem_of_getElem? (i := 131) rfl)) rfl
theorem kw2_132 : Cond.code yX6_open prog_1_method_14_code 5 (some .int) ∈ AW := AW_of (in_tables_1_2 (List.mem_of_getElem? (i := 132) rfl)) rfl
theorem kw2_133 : Cond.methodLink "TrainNoteLaw" 67 yX6_stand ∈ AW := AW_of (in_tables_1_2 (List.mem_of_getElem? (i := 133) rfl)) rfl
theorem kw2_134 : Cond.instanceMethod yX6_stand ∈ AW := AW_of (in_tables_1_2 (List.mem_of_getElem? (i := 134) rfl)) rfl
theorem kw2_135 : Cond.selects "TrainNote" yX6_stand yX6_stand ∈ AW := AW_of (in_tables_1_2 (List.mem_of_getElem? (i := 135) rfl)) rfl
theorem kw2_136 : Cond.code yX6_stand prog_1_method_15_code 5 (some .int) ∈ AW := AW_of (in_tables_1_2 (List.mem_of_getElem? (i := 136) rfl)) rfl
theorem kw2_137 : Cond.methodLink "TrainNote" 171 yX0_become ∈ AW := AW_of (in_tables_1_2 (List.mem_of_getElem? (i := 137) rfl)) rfl
theorem kw2_138 : Cond.instanceMethod yX0_become ∈ AW := AW_of (in_tables_1_2 (List.mem_of_getElem? (i := 138) rfl)) rfl
theorem kw2_139 : Cond.selects "TrainNote$Choir" yX0_become yX0_become ∈ AW := AW_of (in_tables_1_2 (List.mem_of_getElem? (i := 139) rfl)) rfl
theorem kw2_140 : Cond.code yX0_become prog_2_method_3_code 3 none ∈ AW := AW_of (in_tables_1_2 (List.mem_of_getElem? (i := 140) rfl)) rfl
theorem kw2_141 : Cond.methodLink "TrainNote" 175 yX6_bestOrder ∈ AW := AW_of (in_tables_1_2 (List.mem_of_getElem? (i := 141) rfl)) rfl
theorem kw2_143 : Cond.instanceMethod yX6_bestOrder ∈ AW := AW_of (in_tables_1_2 (List.mem_of_getElem? (i := 143) rfl)) rfl
theorem kw2_144 : Cond.code yX6_bestOrder prog_1_method_50_code 7 (some .int) ∈ AW := AW_of (in_tables_1_2 (List.mem_of_getElem? (i := 144) rfl)) rfl
theorem kw2_145 : Cond.methodLink "TrainNote" 178 yX6_spreadWhenMoved ∈ AW := AW_of (in_tables_1_2 (List.mem_of_getElem? (i := 145) rfl)) rfl
theorem kw2_147 : Cond.instanceMethod yX6_spreadWhenMoved ∈ AW := AW_of (in_tables_1_2 (List.mem_of_getElem? (i := 147) rfl)) rfl
theorem kw2_148 : Cond.code yX6_spreadWhenMoved prog_1_method_51_code 5 (some .int) ∈ AW := AW_of (in_tables_1_2 (List.mem_of_getElem? (i := 148) rfl)) rfl
theorem kw2_149 : Cond.methodLink "TrainNote" 182 yX6_layOrder ∈ AW := AW_of (in_tables_1_2 (List.mem_of_getElem? (i := 149) rfl)) rfl
theorem kw2_151 : Cond.instanceMethod yX6_layOrder ∈ AW := AW_of (in_tables_1_2 (List.mem_of_getElem? (i := 151) rfl)) rfl
theorem kw2_152 : Cond.code yX6_layOrder prog_1_method_52_code 7 none ∈ AW := AW_of (in_tables_1_2 (List.mem_of_getElem? (i := 152) rfl)) rfl
theorem kw2_153 : Cond.fieldLink "TrainNote" 378 "TrainNote" "FACTORIALS" "[I" ∈ AW := AW_of (in_tables_1_2 (List.mem_of_getElem? (i := 153) rfl)) rfl
theorem kw2_154 : Cond.laysStatic "TrainNote" "FACTORIALS" "[I" ∈ lw_tbl := in_tables_1_2 (List.mem_of_getElem? (i := 154) rfl)
theorem kw2_155 : Cond.methodLink "TrainNote" 384 yX6_unusedAt ∈ AW := AW_of (in_tables_1_2 (List.mem_of_getElem? (i := 155) rfl)) rfl
theorem kw2_156 : Cond.static yX6_unusedAt ∈ AW := AW_of (in_tables_1_2 (List.mem_of_getElem? (i := 156) rfl)) rfl
theorem kw2_157 : Cond.code yX6_unusedAt prog_1_method_53_code 5 (some .int) ∈ AW := AW_of (in_tables_1_2 (List.mem_of_getElem? (i := 157) rfl)) rfl
theorem kw2_158 : Cond.methodLink "TrainNote" 381 yX0_link ∈ AW := AW_of (in_tables_1_2 (List.mem_of_getElem? (i := 158) rfl)) rfl
theorem kw2_159 : Cond.methodLink "TrainNoteLaw" 71 yX6_hush ∈ AW := AW_of (in_tables_1_2 (List.mem_of_getElem? (i := 159) rfl)) rfl
theorem kw2_160 : Cond.instanceMethod yX6_hush ∈ AW := AW_of (in_tables_1_2 (List.mem_of_getElem? (i := 160) rfl)) rfl
theorem kw2_161 : Cond.selects "TrainNote" yX6_hush yX6_hush ∈ AW := AW_of (in_tables_1_2 (List.mem_of_getElem? (i := 161) rfl)) rfl
theorem kw2_162 : Cond.code yX6_hush prog_1_method_16_code 4 (some .int) ∈ AW := AW_of (in_tables_1_2 (List.mem_of_getElem? (i := 162) rfl)) rfl
theorem kw2_163 : Cond.methodLink "TrainNote" 186 yX6_fewestToHush ∈ AW := AW_of (in_tables_1_2 (List.mem_of_getElem? (i := 163) rfl)) rfl
theorem kw2_165 : Cond.instanceMethod yX6_fewestToHush ∈ AW := AW_of (in_tables_1_2 (List.mem_of_getElem? (i := 165) rfl)) rfl
theorem kw2_166 : Cond.code yX6_fewestToHush prog_1_method_54_code 6 (some .int) ∈ AW := AW_of (in_tables_1_2 (List.mem_of_getElem? (i := 166) rfl)) rfl
theorem kw2_167 : Cond.methodLink "TrainNote" 387 yX6_outside ∈ AW := AW_of (in_tables_1_2 (List.mem_of_getElem? (i := 167) rfl)) rfl
theorem kw2_169 : Cond.instanceMethod yX6_outside ∈ AW := AW_of (in_tables_1_2 (List.mem_of_getElem? (i := 169) rfl)) rfl
theorem kw2_170 : Cond.code yX6_outside prog_1_method_55_code 7 (some .int) ∈ AW := AW_of (in_tables_1_2 (List.mem_of_getElem? (i := 170) rfl)) rfl
theorem kw2_171 : Cond.methodLink "TrainNote" 390 yX6_isLesser ∈ AW := AW_of (in_tables_1_2 (List.mem_of_getElem? (i := 171) rfl)) rfl
theorem kw2_172 : Cond.static yX6_isLesser ∈ AW := AW_of (in_tables_1_2 (List.mem_of_getElem? (i := 172) rfl)) rfl
theorem kw2_173 : Cond.code yX6_isLesser prog_1_method_56_code 3 (some .boolean) ∈ AW := AW_of (in_tables_1_2 (List.mem_of_getElem? (i := 173) rfl)) rfl
theorem kw2_174 : Cond.methodLink "TrainNote" 189 yJ6_bitCount_0f7a4 ∈ AW := AW_of (in_tables_1_2 (List.mem_of_getElem? (i := 174) rfl)) rfl
theorem kw2_175 : Cond.static yJ6_bitCount_0f7a4 ∈ AW := AW_of (in_tables_1_2 (List.mem_of_getElem? (i := 175) rfl)) rfl
theorem kw2_176 : Cond.code yJ6_bitCount_0f7a4 prog_10_method_49_code 1 (some .int) ∈ AW := AW_of (in_tables_1_2 (List.mem_of_getElem? (i := 176) rfl)) rfl
theorem kw2_177 : Cond.constant "java/lang/Integer" 265 (1431655765) ∈ AW := AW_of (in_tables_1_2 (List.mem_of_getElem? (i := 177) rfl)) rfl
theorem kw2_178 : Cond.constant "java/lang/Integer" 266 (858993459) ∈ AW := AW_of (in_tables_1_2 (List.mem_of_getElem? (i := 178) rfl)) rfl
theorem kw2_179 : Cond.constant "java/lang/Integer" 267 (252645135) ∈ AW := AW_of (in_tables_1_2 (List.mem_of_getElem? (i := 179) rfl)) rfl
theorem kw2_180 : Cond.methodLink "TrainNoteLaw" 75 yX6_drive ∈ AW := AW_of (in_tables_1_2 (List.mem_of_getElem? (i := 180) rfl)) rfl
theorem kw2_181 : Cond.instanceMethod yX6_drive ∈ AW := AW_of (in_tables_1_2 (List.mem_of_getElem? (i := 181) rfl)) rfl
theorem kw2_182 : Cond.selects "TrainNote" yX6_drive yX6_drive ∈ AW := AW_of (in_tables_1_2 (List.mem_of_getElem? (i := 182) rfl)) rfl
theorem kw2_183 : Cond.code yX6_drive prog_1_method_17_code 7 (some .int) ∈ AW := AW_of (in_tables_1_2 (List.mem_of_getElem? (i := 183) rfl)) rfl
theorem kw2_184 : Cond.methodLink "TrainNote" 194 yX5_become ∈ AW := AW_of (in_tables_1_2 (List.mem_of_getElem? (i := 184) rfl)) rfl
theorem kw2_185 : Cond.instanceMethod yX5_become ∈ AW := AW_of (in_tables_1_2 (List.mem_of_getElem? (i := 185) rfl)) rfl
theorem kw2_186 : Cond.selects "TrainNote$Train" yX5_become yX5_become ∈ AW := AW_of (in_tables_1_2 (List.mem_of_getElem? (i := 186) rfl)) rfl
theorem kw2_187 : Cond.code yX5_become prog_7_method_3_code 2 none ∈ AW := AW_of (in_tables_1_2 (List.mem_of_getElem? (i := 187) rfl)) rfl
theorem kw2_188 : Cond.constant "TrainNote" 197 (-2147483648) ∈ AW := AW_of (in_tables_1_2 (List.mem_of_getElem? (i := 188) rfl)) rfl
theorem kw2_189 : Cond.methodLink "TrainNoteLaw" 79 yX6_heard ∈ AW := AW_of (in_tables_1_2 (List.mem_of_getElem? (i := 189) rfl)) rfl
theorem kw2_190 : Cond.instanceMethod yX6_heard ∈ AW := AW_of (in_tables_1_2 (List.mem_of_getElem? (i := 190) rfl)) rfl
theorem kw2_191 : Cond.selects "TrainNote" yX6_heard yX6_heard ∈ AW := AW_of (in_tables_1_2 (List.mem_of_getElem? (i := 191) rfl)) rfl
theorem kw2_192 : Cond.code yX6_heard prog_1_method_18_code 4 (some .int) ∈ AW := AW_of (in_tables_1_2 (List.mem_of_getElem? (i := 192) rfl)) rfl
theorem kw2_193 : Cond.methodLink "TrainNote" 201 yX1_mayHold ∈ AW := AW_of (in_tables_1_2 (List.mem_of_getElem? (i := 193) rfl)) rfl
theorem kw2_194 : Cond.static yX1_mayHold ∈ AW := AW_of (in_tables_1_2 (List.mem_of_getElem? (i := 194) rfl)) rfl
theorem kw2_195 : Cond.code yX1_mayHold prog_3_method_2_code 3 (some .boolean) ∈ AW := AW_of (in_tables_1_2 (List.mem_of_getElem? (i := 195) rfl)) rfl
theorem kw2_196 : Cond.methodLink "TrainNote" 205 yX1_isFull ∈ AW := AW_of (in_tables_1_2 (List.mem_of_getElem? (i := 196) rfl)) rfl
theorem kw2_197 : Cond.instanceMethod yX1_isFull ∈ AW := AW_of (in_tables_1_2 (List.mem_of_getElem? (i := 197) rfl)) rfl
theorem kw2_198 : Cond.selects "TrainNote$Memory" yX1_isFull yX1_isFull ∈ AW := AW_of (in_tables_1_2 (List.mem_of_getElem? (i := 198) rfl)) rfl
theorem kw2_199 : Cond.code yX1_isFull prog_3_method_3_code 1 (some .boolean) ∈ AW := AW_of (in_tables_1_2 (List.mem_of_getElem? (i := 199) rfl)) rfl
theorem kw2_200 : Cond.methodLink "TrainNote" 206 yX1_keep ∈ AW := AW_of (in_tables_1_2 (List.mem_of_getElem? (i := 200) rfl)) rfl
theorem kw2_201 : Cond.instanceMethod yX1_keep ∈ AW := AW_of (in_tables_1_2 (List.mem_of_getElem? (i := 201) rfl)) rfl
theorem kw2_202 : Cond.selects "TrainNote$Memory" yX1_keep yX1_keep ∈ AW := AW_of (in_tables_1_2 (List.mem_of_getElem? (i := 202) rfl)) rfl
theorem kw2_203 : Cond.code yX1_keep prog_3_method_4_code 4 none ∈ AW := AW_of (in_tables_1_2 (List.mem_of_getElem? (i := 203) rfl)) rfl
theorem kw2_204 : Cond.methodLink "TrainNote$Memory" 25 yX1_isFull ∈ AW := AW_of (in_tables_1_2 (List.mem_of_getElem? (i := 204) rfl)) rfl
theorem kw2_205 : Cond.methodLink "TrainNoteLaw" 84 yX6_forget ∈ AW := AW_of (in_tables_1_2 (List.mem_of_getElem? (i := 205) rfl)) rfl
theorem kw2_206 : Cond.instanceMethod yX6_forget ∈ AW := AW_of (in_tables_1_2 (List.mem_of_getElem? (i := 206) rfl)) rfl
theorem kw2_207 : Cond.selects "TrainNote" yX6_forget yX6_forget ∈ AW := AW_of (in_tables_1_2 (List.mem_of_getElem? (i := 207) rfl)) rfl
theorem kw2_208 : Cond.code yX6_forget prog_1_method_19_code 2 (some .int) ∈ AW := AW_of (in_tables_1_2 (List.mem_of_getElem? (i := 208) rfl)) rfl
theorem kw2_209 : Cond.methodLink "TrainNoteLaw" 89 yX6_read ∈ AW := AW_of (in_tables_1_2 (List.mem_of_getElem? (i := 209) rfl)) rfl
theorem kw2_210 : Cond.instanceMethod yX6_read ∈ AW := AW_of (in_tables_1_2 (List.mem_of_getElem? (i := 210) rfl)) rfl
theorem kw2_211 : Cond.selects "TrainNote" yX6_read yX6_read ∈ AW := AW_of (in_tables_1_2 (List.mem_of_getElem? (i := 211) rfl)) rfl
theorem kw2_212 : Cond.code yX6_read prog_1_method_20_code 5 (some .int) ∈ AW := AW_of (in_tables_1_2 (List.mem_of_getElem? (i := 212) rfl)) rfl
theorem kw2_213 : Cond.methodLink "TrainNote" 211 yX6_isNoSheet ∈ AW := AW_of (in_tables_1_2 (List.mem_of_getElem? (i := 213) rfl)) rfl
theorem kw2_214 : Cond.static yX6_isNoSheet ∈ AW := AW_of (in_tables_1_2 (List.mem_of_getElem? (i := 214) rfl)) rfl
theorem kw2_215 : Cond.code yX6_isNoSheet prog_1_method_39_code 1 (some .boolean) ∈ AW := AW_of (in_tables_1_2 (List.mem_of_getElem? (i := 215) rfl)) rfl
theorem kw2_216 : Cond.methodLink "TrainNote" 214 yX2_isLost ∈ AW := AW_of (in_tables_1_2 (List.mem_of_getElem? (i := 216) rfl)) rfl
theorem kw2_217 : Cond.instanceMethod yX2_isLost ∈ AW := AW_of (in_tables_1_2 (List.mem_of_getElem? (i := 217) rfl)) rfl
theorem kw2_218 : Cond.selects "TrainNote$Sheet" yX2_isLost yX2_isLost ∈ AW := AW_of (in_tables_1_2 (List.mem_of_getElem? (i := 218) rfl)) rfl
theorem kw2_219 : Cond.code yX2_isLost prog_4_method_2_code 1 (some .boolean) ∈ AW := AW_of (in_tables_1_2 (List.mem_of_getElem? (i := 219) rfl)) rfl
theorem kw2_220 : Cond.methodLink "TrainNote" 217 yX6_find ∈ AW := AW_of (in_tables_1_2 (List.mem_of_getElem? (i := 220) rfl)) rfl
theorem kw2_222 : Cond.instanceMethod yX6_find ∈ AW := AW_of (in_tables_1_2 (List.mem_of_getElem? (i := 222) rfl)) rfl
theorem kw2_223 : Cond.code yX6_find prog_1_method_64_code 2 (some .int) ∈ AW := AW_of (in_tables_1_2 (List.mem_of_getElem? (i := 223) rfl)) rfl
theorem kw2_224 : Cond.methodLink "TrainNoteLaw" 93 yX6_speeds ∈ AW := AW_of (in_tables_1_2 (List.mem_of_getElem? (i := 224) rfl)) rfl
theorem kw2_225 : Cond.instanceMethod yX6_speeds ∈ AW := AW_of (in_tables_1_2 (List.mem_of_getElem? (i := 225) rfl)) rfl
theorem kw2_226 : Cond.selects "TrainNote" yX6_speeds yX6_speeds ∈ AW := AW_of (in_tables_1_2 (List.mem_of_getElem? (i := 226) rfl)) rfl
theorem kw2_227 : Cond.code yX6_speeds prog_1_method_21_code 3 (some .int) ∈ AW := AW_of (in_tables_1_2 (List.mem_of_getElem? (i := 227) rfl)) rfl
theorem kw2_228 : Cond.methodLink "TrainNote" 224 yX6_findFittingSpeeds ∈ AW := AW_of (in_tables_1_2 (List.mem_of_getElem? (i := 228) rfl)) rfl
theorem kw2_230 : Cond.instanceMethod yX6_findFittingSpeeds ∈ AW := AW_of (in_tables_1_2 (List.mem_of_getElem? (i := 230) rfl)) rfl
theorem kw2_231 : Cond.code yX6_findFittingSpeeds prog_1_method_58_code 3 (some .int) ∈ AW := AW_of (in_tables_1_2 (List.mem_of_getElem? (i := 231) rfl)) rfl
theorem kw2_232 : Cond.methodLink "TrainNote" 230 yX6_allComesOut ∈ AW := AW_of (in_tables_1_2 (List.mem_of_getElem? (i := 232) rfl)) rfl
theorem kw2_234 : Cond.instanceMethod yX6_allComesOut ∈ AW := AW_of (in_tables_1_2 (List.mem_of_getElem? (i := 234) rfl)) rfl
theorem kw2_235 : Cond.code yX6_allComesOut prog_1_method_57_code 5 (some .boolean) ∈ AW := AW_of (in_tables_1_2 (List.mem_of_getElem? (i := 235) rfl)) rfl
theorem kw2_236 : Cond.methodLink "TrainNoteLaw" 97 yX6_cows ∈ AW := AW_of (in_tables_1_2 (List.mem_of_getElem? (i := 236) rfl)) rfl
theorem kw2_237 : Cond.instanceMethod yX6_cows ∈ AW := AW_of (in_tables_1_2 (List.mem_of_getElem? (i := 237) rfl)) rfl
theorem kw2_238 : Cond.selects "TrainNote" yX6_cows yX6_cows ∈ AW := AW_of (in_tables_1_2 (List.mem_of_getElem? (i := 238) rfl)) rfl
theorem kw2_239 : Cond.code yX6_cows prog_1_method_22_code 3 (some .int) ∈ AW := AW_of (in_tables_1_2 (List.mem_of_getElem? (i := 239) rfl)) rfl
theorem in_tables_1_3 {w : Cond} (h : w ∈ tables_1_3) : w ∈ lw_tbl := List.mem_append_right _ (List.mem_append_right _ (List.mem_append_right _ (List.mem_append_left _ h)))
theorem kw3_0 : Cond.methodLink "TrainNoteLaw" 101 yX6_ask ∈ AW := AW_of (in_tables_1_3 (List.mem_of_getElem? (i := 0) rfl)) rfl
theorem kw3_1 : Cond.instanceMethod yX6_ask ∈ AW := AW_of (in_tables_1_3 (List.mem_of_getElem? (i := 1) rfl)) rfl
theorem kw3_2 : Cond.selects "TrainNote" yX6_ask yX6_ask ∈ AW := AW_of (in_tables_1_3 (List.mem_of_getElem? (i := 2) rfl)) rfl
theorem kw3_3 : Cond.code yX6_ask prog_1_method_23_code 6 (some .int) ∈ AW := AW_of (in_tables_1_3 (List.mem_of_getElem? (i := 3) rfl)) rfl
theorem kw3_4 : Cond.methodLink "TrainNote" 234 yX6_mostAlike ∈ AW := AW_of (in_tables_1_3 (List.mem_of_getElem? (i := 4) rfl)) rfl
theorem kw3_6 : Cond.instanceMethod yX6_mostAlike ∈ AW := AW_of (in_tables_1_3 (List.mem_of_getElem? (i := 6) rfl)) rfl
theorem kw3_7 : Cond.code yX6_mostAlike prog_1_method_59_code 8 (some .int) ∈ AW := AW_of (in_tables_1_3 (List.mem_of_getElem? (i := 7) rfl)) rfl
theorem kw3_8 : Cond.methodLink "TrainNoteLaw" 105 yX6_herd ∈ AW := AW_of (in_tables_1_3 (List.mem_of_getElem? (i := 8) rfl)) rfl
theorem kw3_9 : Cond.instanceMethod yX6_herd ∈ AW := AW_of (in_tables_1_3 (List.mem_of_getElem? (i := 9) rfl)) rfl
theorem kw3_10 : Cond.selects "TrainNote" yX6_herd yX6_herd ∈ AW := AW_of (in_tables_1_3 (List.mem_of_getElem? (i := 10) rfl)) rfl
theorem kw3_11 : Cond.code yX6_herd prog_1_method_24_code 10 (some .long) ∈ AW := AW_of (in_tables_1_3 (List.mem_of_getElem? (i := 11) rfl)) rfl
theorem kw3_12 : Cond.constantLong "TrainNote" 240 (-9223372036854775806) ∈ AW := AW_of (in_tables_1_3 (List.mem_of_getElem? (i := 12) rfl)) rfl
theorem kw3_13 : Cond.methodLink "TrainNote" 242 yX6_waysToClose ∈ AW := AW_of (in_tables_1_3 (List.mem_of_getElem? (i := 13) rfl)) rfl
theorem kw3_15 : Cond.instanceMethod yX6_waysToClose ∈ AW := AW_of (in_tables_1_3 (List.mem_of_getElem? (i := 15) rfl)) rfl
theorem kw3_16 : Cond.code yX6_waysToClose prog_1_method_60_code 9 (some .long) ∈ AW := AW_of (in_tables_1_3 (List.mem_of_getElem? (i := 16) rfl)) rfl
theorem kw3_17 : Cond.methodLink "TrainNote" 248 yX6_power ∈ AW := AW_of (in_tables_1_3 (List.mem_of_getElem? (i := 17) rfl)) rfl
theorem kw3_18 : Cond.static yX6_power ∈ AW := AW_of (in_tables_1_3 (List.mem_of_getElem? (i := 18) rfl)) rfl
theorem kw3_19 : Cond.code yX6_power prog_1_method_61_code 6 (some .long) ∈ AW := AW_of (in_tables_1_3 (List.mem_of_getElem? (i := 19) rfl)) rfl
theorem kw3_20 : Cond.constantLong "TrainNote" 246 (16) ∈ AW := AW_of (in_tables_1_3 (List.mem_of_getElem? (i := 20) rfl)) rfl
theorem kw3_21 : Cond.constantLong "TrainNote" 252 (2) ∈ AW := AW_of (in_tables_1_3 (List.mem_of_getElem? (i := 21) rfl)) rfl
theorem kw3_22 : Cond.methodLink "TrainNoteLaw" 110 yX6_times ∈ AW := AW_of (in_tables_1_3 (List.mem_of_getElem? (i := 22) rfl)) rfl
theorem kw3_23 : Cond.instanceMethod yX6_times ∈ AW := AW_of (in_tables_1_3 (List.mem_of_getElem? (i := 23) rfl)) rfl
theorem kw3_24 : Cond.selects "TrainNote" yX6_times yX6_times ∈ AW := AW_of (in_tables_1_3 (List.mem_of_getElem? (i := 24) rfl)) rfl
theorem kw3_25 : Cond.code yX6_times prog_1_method_25_code 7 (some .int) ∈ AW := AW_of (in_tables_1_3 (List.mem_of_getElem? (i := 25) rfl)) rfl
theorem kw3_26 : Cond.methodLink "TrainNote" 254 yX6_nextSeed ∈ AW := AW_of (in_tables_1_3 (List.mem_of_getElem? (i := 26) rfl)) rfl
theorem kw3_27 : Cond.static yX6_nextSeed ∈ AW := AW_of (in_tables_1_3 (List.mem_of_getElem? (i := 27) rfl)) rfl
theorem kw3_28 : Cond.code yX6_nextSeed prog_1_method_62_code 1 (some .int) ∈ AW := AW_of (in_tables_1_3 (List.mem_of_getElem? (i := 28) rfl)) rfl
theorem kw3_29 : Cond.constant "TrainNote" 399 (1103515245) ∈ AW := AW_of (in_tables_1_3 (List.mem_of_getElem? (i := 29) rfl)) rfl
theorem kw3_30 : Cond.methodLink "TrainNote" 257 yX6_lotOf ∈ AW := AW_of (in_tables_1_3 (List.mem_of_getElem? (i := 30) rfl)) rfl
theorem kw3_31 : Cond.static yX6_lotOf ∈ AW := AW_of (in_tables_1_3 (List.mem_of_getElem? (i := 31) rfl)) rfl
theorem kw3_32 : Cond.code yX6_lotOf prog_1_method_63_code 2 (some .int) ∈ AW := AW_of (in_tables_1_3 (List.mem_of_getElem? (i := 32) rfl)) rfl
theorem kw3_33 : Cond.methodLink "TrainNoteLaw" 114 yX6_sheet ∈ AW := AW_of (in_tables_1_3 (List.mem_of_getElem? (i := 33) rfl)) rfl
theorem kw3_34 : Cond.instanceMethod yX6_sheet ∈ AW := AW_of (in_tables_1_3 (List.mem_of_getElem? (i := 34) rfl)) rfl
theorem kw3_35 : Cond.selects "TrainNote" yX6_sheet yX6_sheet ∈ AW := AW_of (in_tables_1_3 (List.mem_of_getElem? (i := 35) rfl)) rfl
theorem kw3_36 : Cond.code yX6_sheet prog_1_method_26_code 4 (some .int) ∈ AW := AW_of (in_tables_1_3 (List.mem_of_getElem? (i := 36) rfl)) rfl
theorem kw3_37 : Cond.methodLink "TrainNote" 263 yX6_isNoForm ∈ AW := AW_of (in_tables_1_3 (List.mem_of_getElem? (i := 37) rfl)) rfl
theorem kw3_38 : Cond.static yX6_isNoForm ∈ AW := AW_of (in_tables_1_3 (List.mem_of_getElem? (i := 38) rfl)) rfl
theorem kw3_39 : Cond.code yX6_isNoForm prog_1_method_40_code 1 (some .boolean) ∈ AW := AW_of (in_tables_1_3 (List.mem_of_getElem? (i := 39) rfl)) rfl
theorem kw3_40 : Cond.methodLink "TrainNote" 266 yX2_renew ∈ AW := AW_of (in_tables_1_3 (List.mem_of_getElem? (i := 40) rfl)) rfl
theorem kw3_41 : Cond.instanceMethod yX2_renew ∈ AW := AW_of (in_tables_1_3 (List.mem_of_getElem? (i := 41) rfl)) rfl
theorem kw3_42 : Cond.selects "TrainNote$Sheet" yX2_renew yX2_renew ∈ AW := AW_of (in_tables_1_3 (List.mem_of_getElem? (i := 42) rfl)) rfl
theorem kw3_43 : Cond.code yX2_renew prog_4_method_3_code 3 none ∈ AW := AW_of (in_tables_1_3 (List.mem_of_getElem? (i := 43) rfl)) rfl
theorem kw3_44 : Cond.methodLink "TrainNote$Sheet" 22 yJ9_min_7cf53 ∈ AW := AW_of (in_tables_1_3 (List.mem_of_getElem? (i := 44) rfl)) rfl
theorem kw3_45 : Cond.methodLink "TrainNote$Sheet" 28 yJ9_max_7cf53 ∈ AW := AW_of (in_tables_1_3 (List.mem_of_getElem? (i := 45) rfl)) rfl
theorem kw3_46 : Cond.methodLink "TrainNote$Sheet" 31 yJ7_fill_53178 ∈ AW := AW_of (in_tables_1_3 (List.mem_of_getElem? (i := 46) rfl)) rfl
theorem kw3_47 : Cond.static yJ7_fill_53178 ∈ AW := AW_of (in_tables_1_3 (List.mem_of_getElem? (i := 47) rfl)) rfl
theorem kw3_48 : Cond.code yJ7_fill_53178 prog_13_method_103_code 4 none ∈ AW := AW_of (in_tables_1_3 (List.mem_of_getElem? (i := 48) rfl)) rfl
theorem kw3_49 : Cond.methodLink "TrainNoteLaw" 118 yX6_lose ∈ AW := AW_of (in_tables_1_3 (List.mem_of_getElem? (i := 49) rfl)) rfl
theorem kw3_50 : Cond.instanceMethod yX6_lose ∈ AW := AW_of (in_tables_1_3 (List.mem_of_getElem? (i := 50) rfl)) rfl
theorem kw3_51 : Cond.selects "TrainNote" yX6_lose yX6_lose ∈ AW := AW_of (in_tables_1_3 (List.mem_of_getElem? (i := 51) rfl)) rfl
theorem kw3_52 : Cond.code yX6_lose prog_1_method_27_code 4 (some .int) ∈ AW := AW_of (in_tables_1_3 (List.mem_of_getElem? (i := 52) rfl)) rfl
theorem kw3_53 : Cond.methodLink "TrainNoteLaw" 122 yX6_lay ∈ AW := AW_of (in_tables_1_3 (List.mem_of_getElem? (i := 53) rfl)) rfl
theorem kw3_54 : Cond.instanceMethod yX6_lay ∈ AW := AW_of (in_tables_1_3 (List.mem_of_getElem? (i := 54) rfl)) rfl
theorem kw3_55 : Cond.selects "TrainNote" yX6_lay yX6_lay ∈ AW := AW_of (in_tables_1_3 (List.mem_of_getElem? (i := 55) rfl)) rfl
theorem kw3_56 : Cond.code yX6_lay prog_1_method_28_code 6 (some .int) ∈ AW := AW_of (in_tables_1_3 (List.mem_of_getElem? (i := 56) rfl)) rfl
theorem kw3_57 : Cond.methodLink "TrainNote" 269 yX6_findingOfItem ∈ AW := AW_of (in_tables_1_3 (List.mem_of_getElem? (i := 57) rfl)) rfl
theorem kw3_58 : Cond.static yX6_findingOfItem ∈ AW := AW_of (in_tables_1_3 (List.mem_of_getElem? (i := 58) rfl)) rfl
theorem kw3_59 : Cond.code yX6_findingOfItem prog_1_method_65_code 3 (some .int) ∈ AW := AW_of (in_tables_1_3 (List.mem_of_getElem? (i := 59) rfl)) rfl
theorem kw3_60 : Cond.methodLink "TrainNote" 273 yX2_put ∈ AW := AW_of (in_tables_1_3 (List.mem_of_getElem? (i := 60) rfl)) rfl
theorem kw3_61 : Cond.instanceMethod yX2_put ∈ AW := AW_of (in_tables_1_3 (List.mem_of_getElem? (i := 61) rfl)) rfl
theorem kw3_62 : Cond.selects "TrainNote$Sheet" yX2_put yX2_put ∈ AW := AW_of (in_tables_1_3 (List.mem_of_getElem? (i := 62) rfl)) rfl
theorem kw3_63 : Cond.code yX2_put prog_4_method_4_code 3 none ∈ AW := AW_of (in_tables_1_3 (List.mem_of_getElem? (i := 63) rfl)) rfl
theorem kw3_64 : Cond.methodLink "TrainNoteLaw" 127 yX6_get ∈ AW := AW_of (in_tables_1_3 (List.mem_of_getElem? (i := 64) rfl)) rfl
theorem kw3_65 : Cond.instanceMethod yX6_get ∈ AW := AW_of (in_tables_1_3 (List.mem_of_getElem? (i := 65) rfl)) rfl
theorem kw3_66 : Cond.selects "TrainNote" yX6_get yX6_get ∈ AW := AW_of (in_tables_1_3 (List.mem_of_getElem? (i := 66) rfl)) rfl
theorem kw3_67 : Cond.code yX6_get prog_1_method_29_code 5 (some .int) ∈ AW := AW_of (in_tables_1_3 (List.mem_of_getElem? (i := 67) rfl)) rfl
theorem kw3_68 : Cond.methodLink "TrainNoteLaw" 131 yX6_copy ∈ AW := AW_of (in_tables_1_3 (List.mem_of_getElem? (i := 68) rfl)) rfl
theorem kw3_69 : Cond.instanceMethod yX6_copy ∈ AW := AW_of (in_tables_1_3 (List.mem_of_getElem? (i := 69) rfl)) rfl
theorem kw3_70 : Cond.selects "TrainNote" yX6_copy yX6_copy ∈ AW := AW_of (in_tables_1_3 (List.mem_of_getElem? (i := 70) rfl)) rfl
theorem kw3_71 : Cond.code yX6_copy prog_1_method_30_code 8 (some .int) ∈ AW := AW_of (in_tables_1_3 (List.mem_of_getElem? (i := 71) rfl)) rfl
theorem kw3_72 : Cond.methodLink "TrainNote" 279 yX2_hasRun ∈ AW := AW_of (in_tables_1_3 (List.mem_of_getElem? (i := 72) rfl)) rfl
theorem kw3_73 : Cond.instanceMethod yX2_hasRun ∈ AW := AW_of (in_tables_1_3 (List.mem_of_getElem? (i := 73) rfl)) rfl
theorem kw3_74 : Cond.selects "TrainNote$Sheet" yX2_hasRun yX2_hasRun ∈ AW := AW_of (in_tables_1_3 (List.mem_of_getElem? (i := 74) rfl)) rfl
theorem kw3_75 : Cond.code yX2_hasRun prog_4_method_5_code 3 (some .boolean) ∈ AW := AW_of (in_tables_1_3 (List.mem_of_getElem? (i := 75) rfl)) rfl
theorem kw3_76 : Cond.methodLink "TrainNote" 283 ⟨"java/lang/System", "arraycopy", "(Ljava/lang/Object;ILjava/lang/Object;II)V"⟩ ∈ AW := AW_of (in_tables_1_3 (List.mem_of_getElem? (i := 76) rfl)) rfl
theorem kw3_77 : Cond.static ⟨"java/lang/System", "arraycopy", "(Ljava/lang/Object;ILjava/lang/Object;II)V"⟩ ∈ AW := AW_of (in_tables_1_3 (List.mem_of_getElem? (i := 77) rfl)) rfl
theorem kw3_78 : Cond.native ⟨"java/lang/System", "arraycopy", "(Ljava/lang/Object;ILjava/lang/Object;II)V"⟩ ∈ AW := AW_of (in_tables_1_3 (List.mem_of_getElem? (i := 78) rfl)) rfl
theorem kw3_79 : Cond.methodLink "TrainNoteLaw" 136 yX6_write ∈ AW := AW_of (in_tables_1_3 (List.mem_of_getElem? (i := 79) rfl)) rfl
theorem kw3_80 : Cond.instanceMethod yX6_write ∈ AW := AW_of (in_tables_1_3 (List.mem_of_getElem? (i := 80) rfl)) rfl
theorem kw3_81 : Cond.selects "TrainNote" yX6_write yX6_write ∈ AW := AW_of (in_tables_1_3 (List.mem_of_getElem? (i := 81) rfl)) rfl
theorem kw3_82 : Cond.code yX6_write prog_1_method_31_code 6 (some .int) ∈ AW := AW_of (in_tables_1_3 (List.mem_of_getElem? (i := 82) rfl)) rfl
theorem kw3_83 : Cond.methodLink "TrainNoteLaw" 140 yX6_count ∈ AW := AW_of (in_tables_1_3 (List.mem_of_getElem? (i := 83) rfl)) rfl
theorem kw3_84 : Cond.instanceMethod yX6_count ∈ AW := AW_of (in_tables_1_3 (List.mem_of_getElem? (i := 84) rfl)) rfl
theorem kw3_85 : Cond.selects "TrainNote" yX6_count yX6_count ∈ AW := AW_of (in_tables_1_3 (List.mem_of_getElem? (i := 85) rfl)) rfl
theorem kw3_86 : Cond.code yX6_count prog_1_method_32_code 2 (some .int) ∈ AW := AW_of (in_tables_1_3 (List.mem_of_getElem? (i := 86) rfl)) rfl
theorem kw3_87 : Cond.methodLink "TrainNote" 289 yX0_howManySilent ∈ AW := AW_of (in_tables_1_3 (List.mem_of_getElem? (i := 87) rfl)) rfl
theorem kw3_88 : Cond.instanceMethod yX0_howManySilent ∈ AW := AW_of (in_tables_1_3 (List.mem_of_getElem? (i := 88) rfl)) rfl
theorem kw3_89 : Cond.selects "TrainNote$Choir" yX0_howManySilent yX0_howManySilent ∈ AW := AW_of (in_tables_1_3 (List.mem_of_getElem? (i := 89) rfl)) rfl
theorem kw3_90 : Cond.code yX0_howManySilent prog_2_method_7_code 3 (some .int) ∈ AW := AW_of (in_tables_1_3 (List.mem_of_getElem? (i := 90) rfl)) rfl
theorem kw3_91 : Cond.methodLink "TrainNote" 292 yX3_howManyRests ∈ AW := AW_of (in_tables_1_3 (List.mem_of_getElem? (i := 91) rfl)) rfl
theorem kw3_92 : Cond.instanceMethod yX3_howManyRests ∈ AW := AW_of (in_tables_1_3 (List.mem_of_getElem? (i := 92) rfl)) rfl
theorem kw3_93 : Cond.selects "TrainNote$Song" yX3_howManyRests yX3_howManyRests ∈ AW := AW_of (in_tables_1_3 (List.mem_of_getElem? (i := 93) rfl)) rfl
theorem kw3_94 : Cond.code yX3_howManyRests prog_5_method_4_code 3 (some .int) ∈ AW := AW_of (in_tables_1_3 (List.mem_of_getElem? (i := 94) rfl)) rfl
theorem kw3_95 : Cond.methodLink "TrainNoteLaw" 144 yX6_digest ∈ AW := AW_of (in_tables_1_3 (List.mem_of_getElem? (i := 95) rfl)) rfl
theorem kw3_96 : Cond.instanceMethod yX6_digest ∈ AW := AW_of (in_tables_1_3 (List.mem_of_getElem? (i := 96) rfl)) rfl
theorem kw3_97 : Cond.selects "TrainNote" yX6_digest yX6_digest ∈ AW := AW_of (in_tables_1_3 (List.mem_of_getElem? (i := 97) rfl)) rfl
theorem kw3_98 : Cond.code yX6_digest prog_1_method_33_code 4 (some .long) ∈ AW := AW_of (in_tables_1_3 (List.mem_of_getElem? (i := 98) rfl)) rfl
theorem kw3_99 : Cond.constantLong "TrainNote" 295 (17) ∈ AW := AW_of (in_tables_1_3 (List.mem_of_getElem? (i := 99) rfl)) rfl
theorem kw3_100 : Cond.methodLink "TrainNote" 297 yX6_count ∈ AW := AW_of (in_tables_1_3 (List.mem_of_getElem? (i := 100) rfl)) rfl
theorem kw3_101 : Cond.methodLink "TrainNote" 300 yX6_mix ∈ AW := AW_of (in_tables_1_3 (List.mem_of_getElem? (i := 101) rfl)) rfl
theorem kw3_102 : Cond.static yX6_mix ∈ AW := AW_of (in_tables_1_3 (List.mem_of_getElem? (i := 102) rfl)) rfl
theorem kw3_103 : Cond.code yX6_mix prog_1_method_36_code 4 (some .long) ∈ AW := AW_of (in_tables_1_3 (List.mem_of_getElem? (i := 103) rfl)) rfl
theorem kw3_104 : Cond.constantLong "TrainNote" 360 (31) ∈ AW := AW_of (in_tables_1_3 (List.mem_of_getElem? (i := 104) rfl)) rfl
theorem kw3_105 : Cond.methodLink "TrainNote" 304 yX6_fault ∈ AW := AW_of (in_tables_1_3 (List.mem_of_getElem? (i := 105) rfl)) rfl
theorem kw3_106 : Cond.methodLink "TrainNote" 307 yX6_mixSingers ∈ AW := AW_of (in_tables_1_3 (List.mem_of_getElem? (i := 106) rfl)) rfl
theorem kw3_108 : Cond.instanceMethod yX6_mixSingers ∈ AW := AW_of (in_tables_1_3 (List.mem_of_getElem? (i := 108) rfl)) rfl
theorem kw3_109 : Cond.code yX6_mixSingers prog_1_method_34_code 7 (some .long) ∈ AW := AW_of (in_tables_1_3 (List.mem_of_getElem? (i := 109) rfl)) rfl
theorem kw3_110 : Cond.methodLink "TrainNote" 345 yX6_singer ∈ AW := AW_of (in_tables_1_3 (List.mem_of_getElem? (i := 110) rfl)) rfl
theorem kw3_111 : Cond.methodLink "TrainNote" 348 yX6_ear ∈ AW := AW_of (in_tables_1_3 (List.mem_of_getElem? (i := 111) rfl)) rfl
theorem kw3_112 : Cond.methodLink "TrainNote" 311 yX6_mixBars ∈ AW := AW_of (in_tables_1_3 (List.mem_of_getElem? (i := 112) rfl)) rfl
theorem kw3_114 : Cond.instanceMethod yX6_mixBars ∈ AW := AW_of (in_tables_1_3 (List.mem_of_getElem? (i := 114) rfl)) rfl
theorem kw3_115 : Cond.code yX6_mixBars prog_1_method_35_code 7 (some .long) ∈ AW := AW_of (in_tables_1_3 (List.mem_of_getElem? (i := 115) rfl)) rfl
theorem kw3_116 : Cond.methodLink "TrainNote" 351 yX6_bar ∈ AW := AW_of (in_tables_1_3 (List.mem_of_getElem? (i := 116) rfl)) rfl
theorem kw3_117 : Cond.methodLink "TrainNote" 354 yX6_note ∈ AW := AW_of (in_tables_1_3 (List.mem_of_getElem? (i := 117) rfl)) rfl
theorem kw3_118 : Cond.methodLink "TrainNote" 357 yX6_chord ∈ AW := AW_of (in_tables_1_3 (List.mem_of_getElem? (i := 118) rfl)) rfl
theorem kw3_119 : Cond.methodLink "TrainNote" 314 yX6_whistle ∈ AW := AW_of (in_tables_1_3 (List.mem_of_getElem? (i := 119) rfl)) rfl
theorem kw3_120 : Cond.methodLink "TrainNote" 317 yX6_open ∈ AW := AW_of (in_tables_1_3 (List.mem_of_getElem? (i := 120) rfl)) rfl
theorem kw3_121 : Cond.methodLink "TrainNote" 320 yX6_stand ∈ AW := AW_of (in_tables_1_3 (List.mem_of_getElem? (i := 121) rfl)) rfl
theorem kw3_122 : Cond.methodLink "TrainNote" 323 yX6_hush ∈ AW := AW_of (in_tables_1_3 (List.mem_of_getElem? (i := 122) rfl)) rfl
theorem kw3_123 : Cond.methodLink "TrainNote" 326 yX6_drive ∈ AW := AW_of (in_tables_1_3 (List.mem_of_getElem? (i := 123) rfl)) rfl
theorem kw3_124 : Cond.methodLink "TrainNote" 329 yX6_herd ∈ AW := AW_of (in_tables_1_3 (List.mem_of_getElem? (i := 124) rfl)) rfl
theorem kw3_125 : Cond.methodLink "TrainNote" 333 yX6_times ∈ AW := AW_of (in_tables_1_3 (List.mem_of_getElem? (i := 125) rfl)) rfl
theorem kw3_126 : Cond.methodLink "TrainNote" 336 yX6_speeds ∈ AW := AW_of (in_tables_1_3 (List.mem_of_getElem? (i := 126) rfl)) rfl
theorem kw3_127 : Cond.methodLink "TrainNote" 339 yX6_cows ∈ AW := AW_of (in_tables_1_3 (List.mem_of_getElem? (i := 127) rfl)) rfl
theorem kw3_128 : Cond.methodLink "TrainNote" 342 yX6_ask ∈ AW := AW_of (in_tables_1_3 (List.mem_of_getElem? (i := 128) rfl)) rfl
theorem kw3_129 : Cond.classLink "TrainNoteLaw" 10 "TrainNoteModel" ∈ AW := AW_of (in_tables_1_3 (List.mem_of_getElem? (i := 129) rfl)) rfl
theorem kw3_130 : Cond.instantiable "TrainNoteModel" 22 ∈ AW := AW_of (in_tables_1_3 (List.mem_of_getElem? (i := 130) rfl)) rfl
theorem kw3_131 : Cond.methodLink "TrainNoteLaw" 12 yX7_init ∈ AW := AW_of (in_tables_1_3 (List.mem_of_getElem? (i := 131) rfl)) rfl
theorem kw3_132 : Cond.instanceMethod yX7_init ∈ AW := AW_of (in_tables_1_3 (List.mem_of_getElem? (i := 132) rfl)) rfl
theorem kw3_133 : Cond.code yX7_init prog_9_method_1_code 2 none ∈ AW := AW_of (in_tables_1_3 (List.mem_of_getElem? (i := 133) rfl)) rfl
theorem kw3_134 : Cond.methodLink "TrainNoteModel" 1 ⟨"java/lang/Object", "<init>", "()V"⟩ ∈ AW := AW_of (in_tables_1_3 (List.mem_of_getElem? (i := 134) rfl)) rfl
theorem kw3_135 : Cond.fieldLink "TrainNoteModel" 7 "TrainNoteModel" "forms" "[I" ∈ AW := AW_of (in_tables_1_3 (List.mem_of_getElem? (i := 135) rfl)) rfl
theorem kw3_136 : Cond.fieldLink "TrainNoteModel" 13 "TrainNoteModel" "sizes" "[I" ∈ AW := AW_of (in_tables_1_3 (List.mem_of_getElem? (i := 136) rfl)) rfl
theorem kw3_137 : Cond.fieldLink "TrainNoteModel" 16 "TrainNoteModel" "items" "[I" ∈ AW := AW_of (in_tables_1_3 (List.mem_of_getElem? (i := 137) rfl)) rfl
theorem kw3_138 : Cond.fieldLink "TrainNoteModel" 19 "TrainNoteModel" "moved" "[I" ∈ AW := AW_of (in_tables_1_3 (List.mem_of_getElem? (i := 138) rfl)) rfl
theorem kw3_139 : Cond.fieldLink "TrainNoteModel" 67 "TrainNoteModel" "latest" "I" ∈ AW := AW_of (in_tables_1_3 (List.mem_of_getElem? (i := 139) rfl)) rfl
theorem kw3_140 : Cond.fieldLink "TrainNoteModel" 22 "TrainNoteModel" "bytes" "[I" ∈ AW := AW_of (in_tables_1_3 (List.mem_of_getElem? (i := 140) rfl)) rfl
theorem kw3_141 : Cond.fieldLink "TrainNoteModel" 25 "TrainNoteModel" "typed" "[I" ∈ AW := AW_of (in_tables_1_3 (List.mem_of_getElem? (i := 141) rfl)) rfl
theorem kw3_142 : Cond.fieldLink "TrainNoteModel" 101 "TrainNoteModel" "singers" "I" ∈ AW := AW_of (in_tables_1_3 (List.mem_of_getElem? (i := 142) rfl)) rfl
theorem kw3_143 : Cond.fieldLink "TrainNoteModel" 28 "TrainNoteModel" "singer" "[I" ∈ AW := AW_of (in_tables_1_3 (List.mem_of_getElem? (i := 143) rfl)) rfl
theorem kw3_144 : Cond.fieldLink "TrainNoteModel" 107 "TrainNoteModel" "bars" "I" ∈ AW := AW_of (in_tables_1_3 (List.mem_of_getElem? (i := 144) rfl)) rfl
theorem kw3_145 : Cond.fieldLink "TrainNoteModel" 31 "TrainNoteModel" "bar" "[I" ∈ AW := AW_of (in_tables_1_3 (List.mem_of_getElem? (i := 145) rfl)) rfl
theorem kw3_146 : Cond.fieldLink "TrainNoteModel" 34 "TrainNoteModel" "train" "[I" ∈ AW := AW_of (in_tables_1_3 (List.mem_of_getElem? (i := 146) rfl)) rfl
theorem kw3_147 : Cond.fieldLink "TrainNoteModel" 37 "TrainNoteModel" "places" "[I" ∈ AW := AW_of (in_tables_1_3 (List.mem_of_getElem? (i := 147) rfl)) rfl
theorem kw3_148 : Cond.fieldLink "TrainNoteModel" 40 "TrainNoteModel" "near" "[I" ∈ AW := AW_of (in_tables_1_3 (List.mem_of_getElem? (i := 148) rfl)) rfl
theorem kw3_149 : Cond.fieldLink "TrainNoteModel" 43 "TrainNoteModel" "by" "[I" ∈ AW := AW_of (in_tables_1_3 (List.mem_of_getElem? (i := 149) rfl)) rfl
theorem kw3_150 : Cond.fieldLink "TrainNoteModel" 46 "TrainNoteModel" "first" "[I" ∈ AW := AW_of (in_tables_1_3 (List.mem_of_getElem? (i := 150) rfl)) rfl
theorem kw3_151 : Cond.fieldLink "TrainNoteModel" 49 "TrainNoteModel" "row" "[I" ∈ AW := AW_of (in_tables_1_3 (List.mem_of_getElem? (i := 151) rfl)) rfl
theorem kw3_152 : Cond.fieldLink "TrainNoteModel" 52 "TrainNoteModel" "bestRow" "[I" ∈ AW := AW_of (in_tables_1_3 (List.mem_of_getElem? (i := 152) rfl)) rfl
theorem kw3_153 : Cond.fieldLink "TrainNoteModel" 208 "TrainNoteModel" "sights" "I" ∈ AW := AW_of (in_tables_1_3 (List.mem_of_getElem? (i := 153) rfl)) rfl
theorem kw3_154 : Cond.fieldLink "TrainNoteModel" 55 "TrainNoteModel" "sight" "[I" ∈ AW := AW_of (in_tables_1_3 (List.mem_of_getElem? (i := 154) rfl)) rfl
theorem kw3_155 : Cond.fieldLink "TrainNoteModel" 58 "TrainNoteModel" "notes" "[I" ∈ AW := AW_of (in_tables_1_3 (List.mem_of_getElem? (i := 155) rfl)) rfl
theorem kw3_156 : Cond.fieldLink "TrainNoteModel" 248 "TrainNoteModel" "drawn" "I" ∈ AW := AW_of (in_tables_1_3 (List.mem_of_getElem? (i := 156) rfl)) rfl
theorem kw3_157 : Cond.laysFinal "TrainNoteModel" "TrainNoteModel" "forms" "[I" ∈ AW := AW_of (in_tables_1_3 (List.mem_of_getElem? (i := 157) rfl)) rfl
theorem kw3_159 : Cond.laysFinal "TrainNoteModel" "TrainNoteModel" "sizes" "[I" ∈ AW := AW_of (in_tables_1_3 (List.mem_of_getElem? (i := 159) rfl)) rfl
theorem kw3_161 : Cond.laysFinal "TrainNoteModel" "TrainNoteModel" "items" "[I" ∈ AW := AW_of (in_tables_1_3 (List.mem_of_getElem? (i := 161) rfl)) rfl
theorem kw3_163 : Cond.laysFinal "TrainNoteModel" "TrainNoteModel" "moved" "[I" ∈ AW := AW_of (in_tables_1_3 (List.mem_of_getElem? (i := 163) rfl)) rfl
theorem kw3_165 : Cond.lays "TrainNoteModel" "TrainNoteModel" "latest" "I" ∈ AW := AW_of (in_tables_1_3 (List.mem_of_getElem? (i := 165) rfl)) rfl
theorem kw3_167 : Cond.laysFinal "TrainNoteModel" "TrainNoteModel" "bytes" "[I" ∈ AW := AW_of (in_tables_1_3 (List.mem_of_getElem? (i := 167) rfl)) rfl
theorem kw3_169 : Cond.laysFinal "TrainNoteModel" "TrainNoteModel" "typed" "[I" ∈ AW := AW_of (in_tables_1_3 (List.mem_of_getElem? (i := 169) rfl)) rfl
theorem kw3_171 : Cond.lays "TrainNoteModel" "TrainNoteModel" "singers" "I" ∈ AW := AW_of (in_tables_1_3 (List.mem_of_getElem? (i := 171) rfl)) rfl
theorem kw3_173 : Cond.laysFinal "TrainNoteModel" "TrainNoteModel" "singer" "[I" ∈ AW := AW_of (in_tables_1_3 (List.mem_of_getElem? (i := 173) rfl)) rfl
theorem kw3_175 : Cond.lays "TrainNoteModel" "TrainNoteModel" "bars" "I" ∈ AW := AW_of (in_tables_1_3 (List.mem_of_getElem? (i := 175) rfl)) rfl
theorem kw3_177 : Cond.laysFinal "TrainNoteModel" "TrainNoteModel" "bar" "[I" ∈ AW := AW_of (in_tables_1_3 (List.mem_of_getElem? (i := 177) rfl)) rfl
theorem kw3_179 : Cond.laysFinal "TrainNoteModel" "TrainNoteModel" "train" "[I" ∈ AW := AW_of (in_tables_1_3 (List.mem_of_getElem? (i := 179) rfl)) rfl
theorem kw3_181 : Cond.laysFinal "TrainNoteModel" "TrainNoteModel" "places" "[I" ∈ AW := AW_of (in_tables_1_3 (List.mem_of_getElem? (i := 181) rfl)) rfl
theorem kw3_183 : Cond.laysFinal "TrainNoteModel" "TrainNoteModel" "near" "[I" ∈ AW := AW_of (in_tables_1_3 (List.mem_of_getElem? (i := 183) rfl)) rfl
theorem kw3_185 : Cond.laysFinal "TrainNoteModel" "TrainNoteModel" "by" "[I" ∈ AW := AW_of (in_tables_1_3 (List.mem_of_getElem? (i := 185) rfl)) rfl
theorem kw3_187 : Cond.laysFinal "TrainNoteModel" "TrainNoteModel" "first" "[I" ∈ AW := AW_of (in_tables_1_3 (List.mem_of_getElem? (i := 187) rfl)) rfl
theorem kw3_189 : Cond.laysFinal "TrainNoteModel" "TrainNoteModel" "row" "[I" ∈ AW := AW_of (in_tables_1_3 (List.mem_of_getElem? (i := 189) rfl)) rfl
theorem kw3_191 : Cond.laysFinal "TrainNoteModel" "TrainNoteModel" "bestRow" "[I" ∈ AW := AW_of (in_tables_1_3 (List.mem_of_getElem? (i := 191) rfl)) rfl
theorem kw3_193 : Cond.lays "TrainNoteModel" "TrainNoteModel" "sights" "I" ∈ AW := AW_of (in_tables_1_3 (List.mem_of_getElem? (i := 193) rfl)) rfl
theorem kw3_195 : Cond.laysFinal "TrainNoteModel" "TrainNoteModel" "sight" "[I" ∈ AW := AW_of (in_tables_1_3 (List.mem_of_getElem? (i := 195) rfl)) rfl
theorem kw3_197 : Cond.laysFinal "TrainNoteModel" "TrainNoteModel" "notes" "[I" ∈ AW := AW_of (in_tables_1_3 (List.mem_of_getElem? (i := 197) rfl)) rfl
theorem kw3_199 : Cond.lays "TrainNoteModel" "TrainNoteModel" "drawn" "I" ∈ AW := AW_of (in_tables_1_3 (List.mem_of_getElem? (i := 199) rfl)) rfl
theorem kw3_202 : Cond.methodLink "TrainNoteLaw" 117 yX7_sheet ∈ AW := AW_of (in_tables_1_3 (List.mem_of_getElem? (i := 202) rfl)) rfl
theorem kw3_203 : Cond.instanceMethod yX7_sheet ∈ AW := AW_of (in_tables_1_3 (List.mem_of_getElem? (i := 203) rfl)) rfl
theorem kw3_204 : Cond.selects "TrainNoteModel" yX7_sheet yX7_sheet ∈ AW := AW_of (in_tables_1_3 (List.mem_of_getElem? (i := 204) rfl)) rfl
theorem kw3_205 : Cond.code yX7_sheet prog_9_method_14_code 5 (some .int) ∈ AW := AW_of (in_tables_1_3 (List.mem_of_getElem? (i := 205) rfl)) rfl
theorem kw3_206 : Cond.methodLink "TrainNoteModel" 73 yX7_isSheet ∈ AW := AW_of (in_tables_1_3 (List.mem_of_getElem? (i := 206) rfl)) rfl
theorem kw3_207 : Cond.static yX7_isSheet ∈ AW := AW_of (in_tables_1_3 (List.mem_of_getElem? (i := 207) rfl)) rfl
theorem kw3_208 : Cond.code yX7_isSheet prog_9_method_13_code 1 (some .boolean) ∈ AW := AW_of (in_tables_1_3 (List.mem_of_getElem? (i := 208) rfl)) rfl
theorem kw3_209 : Cond.constantLong "TrainNoteModel" 71 (3) ∈ AW := AW_of (in_tables_1_3 (List.mem_of_getElem? (i := 209) rfl)) rfl
theorem kw3_210 : Cond.methodLink "TrainNoteModel" 63 yX7_in ∈ AW := AW_of (in_tables_1_3 (List.mem_of_getElem? (i := 210) rfl)) rfl
theorem kw3_211 : Cond.static yX7_in ∈ AW := AW_of (in_tables_1_3 (List.mem_of_getElem? (i := 211) rfl)) rfl
theorem kw3_212 : Cond.code yX7_in prog_9_method_3_code 6 (some .boolean) ∈ AW := AW_of (in_tables_1_3 (List.mem_of_getElem? (i := 212) rfl)) rfl
theorem kw3_213 : Cond.constantLong "TrainNoteModel" 77 (2) ∈ AW := AW_of (in_tables_1_3 (List.mem_of_getElem? (i := 213) rfl)) rfl
theorem kw3_214 : Cond.methodLink "TrainNoteModel" 79 yX7_finds ∈ AW := AW_of (in_tables_1_3 (List.mem_of_getElem? (i := 214) rfl)) rfl
theorem kw3_216 : Cond.instanceMethod yX7_finds ∈ AW := AW_of (in_tables_1_3 (List.mem_of_getElem? (i := 216) rfl)) rfl
theorem kw3_217 : Cond.code yX7_finds prog_9_method_12_code 2 (some .int) ∈ AW := AW_of (in_tables_1_3 (List.mem_of_getElem? (i := 217) rfl)) rfl
theorem kw3_218 : Cond.methodLink "TrainNoteLaw" 121 yX7_lose ∈ AW := AW_of (in_tables_1_3 (List.mem_of_getElem? (i := 218) rfl)) rfl
theorem kw3_219 : Cond.instanceMethod yX7_lose ∈ AW := AW_of (in_tables_1_3 (List.mem_of_getElem? (i := 219) rfl)) rfl
theorem kw3_220 : Cond.selects "TrainNoteModel" yX7_lose yX7_lose ∈ AW := AW_of (in_tables_1_3 (List.mem_of_getElem? (i := 220) rfl)) rfl
theorem kw3_221 : Cond.code yX7_lose prog_9_method_15_code 2 (some .int) ∈ AW := AW_of (in_tables_1_3 (List.mem_of_getElem? (i := 221) rfl)) rfl
theorem kw3_222 : Cond.methodLink "TrainNoteLaw" 126 yX7_lay ∈ AW := AW_of (in_tables_1_3 (List.mem_of_getElem? (i := 222) rfl)) rfl
theorem kw3_223 : Cond.instanceMethod yX7_lay ∈ AW := AW_of (in_tables_1_3 (List.mem_of_getElem? (i := 223) rfl)) rfl
theorem kw3_224 : Cond.selects "TrainNoteModel" yX7_lay yX7_lay ∈ AW := AW_of (in_tables_1_3 (List.mem_of_getElem? (i := 224) rfl)) rfl
theorem kw3_225 : Cond.code yX7_lay prog_9_method_18_code 6 (some .int) ∈ AW := AW_of (in_tables_1_3 (List.mem_of_getElem? (i := 225) rfl)) rfl
theorem kw3_226 : Cond.methodLink "TrainNoteModel" 83 yX7_lacks ∈ AW := AW_of (in_tables_1_3 (List.mem_of_getElem? (i := 226) rfl)) rfl
theorem kw3_228 : Cond.instanceMethod yX7_lacks ∈ AW := AW_of (in_tables_1_3 (List.mem_of_getElem? (i := 228) rfl)) rfl
theorem kw3_229 : Cond.code yX7_lacks prog_9_method_16_code 4 (some .int) ∈ AW := AW_of (in_tables_1_3 (List.mem_of_getElem? (i := 229) rfl)) rfl
theorem kw3_230 : Cond.methodLink "TrainNoteModel" 87 yX7_cut ∈ AW := AW_of (in_tables_1_3 (List.mem_of_getElem? (i := 230) rfl)) rfl
theorem kw3_231 : Cond.static yX7_cut ∈ AW := AW_of (in_tables_1_3 (List.mem_of_getElem? (i := 231) rfl)) rfl
theorem kw3_232 : Cond.code yX7_cut prog_9_method_17_code 2 (some .int) ∈ AW := AW_of (in_tables_1_3 (List.mem_of_getElem? (i := 232) rfl)) rfl
theorem kw3_233 : Cond.methodLink "TrainNoteLaw" 130 yX7_get ∈ AW := AW_of (in_tables_1_3 (List.mem_of_getElem? (i := 233) rfl)) rfl
theorem kw3_234 : Cond.instanceMethod yX7_get ∈ AW := AW_of (in_tables_1_3 (List.mem_of_getElem? (i := 234) rfl)) rfl
theorem kw3_235 : Cond.selects "TrainNoteModel" yX7_get yX7_get ∈ AW := AW_of (in_tables_1_3 (List.mem_of_getElem? (i := 235) rfl)) rfl
theorem kw3_236 : Cond.code yX7_get prog_9_method_19_code 4 (some .int) ∈ AW := AW_of (in_tables_1_3 (List.mem_of_getElem? (i := 236) rfl)) rfl
theorem kw3_237 : Cond.constant "TrainNoteModel" 91 (-2147483648) ∈ AW := AW_of (in_tables_1_3 (List.mem_of_getElem? (i := 237) rfl)) rfl
theorem kw3_238 : Cond.methodLink "TrainNoteLaw" 135 yX7_copy ∈ AW := AW_of (in_tables_1_3 (List.mem_of_getElem? (i := 238) rfl)) rfl
theorem kw3_239 : Cond.instanceMethod yX7_copy ∈ AW := AW_of (in_tables_1_3 (List.mem_of_getElem? (i := 239) rfl)) rfl
theorem in_tables_1_4 {w : Cond} (h : w ∈ tables_1_4) : w ∈ lw_tbl := List.mem_append_right _ (List.mem_append_right _ (List.mem_append_right _ (List.mem_append_right _ (List.mem_append_left _ h))))
theorem kw4_0 : Cond.selects "TrainNoteModel" yX7_copy yX7_copy ∈ AW := AW_of (in_tables_1_4 (List.mem_of_getElem? (i := 0) rfl)) rfl
theorem kw4_1 : Cond.code yX7_copy prog_9_method_20_code 7 (some .int) ∈ AW := AW_of (in_tables_1_4 (List.mem_of_getElem? (i := 1) rfl)) rfl
theorem kw4_2 : Cond.methodLink "TrainNoteLaw" 17 yX7_type ∈ AW := AW_of (in_tables_1_4 (List.mem_of_getElem? (i := 2) rfl)) rfl
theorem kw4_3 : Cond.instanceMethod yX7_type ∈ AW := AW_of (in_tables_1_4 (List.mem_of_getElem? (i := 3) rfl)) rfl
theorem kw4_4 : Cond.selects "TrainNoteModel" yX7_type yX7_type ∈ AW := AW_of (in_tables_1_4 (List.mem_of_getElem? (i := 4) rfl)) rfl
theorem kw4_5 : Cond.code yX7_type prog_9_method_21_code 3 (some .int) ∈ AW := AW_of (in_tables_1_4 (List.mem_of_getElem? (i := 5) rfl)) rfl
theorem kw4_6 : Cond.methodLink "TrainNoteModel" 92 yX7_isTwo ∈ AW := AW_of (in_tables_1_4 (List.mem_of_getElem? (i := 6) rfl)) rfl
theorem kw4_7 : Cond.static yX7_isTwo ∈ AW := AW_of (in_tables_1_4 (List.mem_of_getElem? (i := 7) rfl)) rfl
theorem kw4_8 : Cond.code yX7_isTwo prog_9_method_5_code 1 (some .boolean) ∈ AW := AW_of (in_tables_1_4 (List.mem_of_getElem? (i := 8) rfl)) rfl
theorem kw4_9 : Cond.constantLong "TrainNoteModel" 95 (255) ∈ AW := AW_of (in_tables_1_4 (List.mem_of_getElem? (i := 9) rfl)) rfl
theorem kw4_10 : Cond.methodLink "TrainNoteLaw" 22 yX7_wipe ∈ AW := AW_of (in_tables_1_4 (List.mem_of_getElem? (i := 10) rfl)) rfl
theorem kw4_11 : Cond.instanceMethod yX7_wipe ∈ AW := AW_of (in_tables_1_4 (List.mem_of_getElem? (i := 11) rfl)) rfl
theorem kw4_12 : Cond.selects "TrainNoteModel" yX7_wipe yX7_wipe ∈ AW := AW_of (in_tables_1_4 (List.mem_of_getElem? (i := 12) rfl)) rfl
theorem kw4_13 : Cond.code yX7_wipe prog_9_method_22_code 3 (some .int) ∈ AW := AW_of (in_tables_1_4 (List.mem_of_getElem? (i := 13) rfl)) rfl
theorem kw4_14 : Cond.methodLink "TrainNoteLaw" 26 yX7_undo ∈ AW := AW_of (in_tables_1_4 (List.mem_of_getElem? (i := 14) rfl)) rfl
theorem kw4_15 : Cond.instanceMethod yX7_undo ∈ AW := AW_of (in_tables_1_4 (List.mem_of_getElem? (i := 15) rfl)) rfl
theorem kw4_16 : Cond.selects "TrainNoteModel" yX7_undo yX7_undo ∈ AW := AW_of (in_tables_1_4 (List.mem_of_getElem? (i := 16) rfl)) rfl
theorem kw4_17 : Cond.code yX7_undo prog_9_method_23_code 2 (some .int) ∈ AW := AW_of (in_tables_1_4 (List.mem_of_getElem? (i := 17) rfl)) rfl
theorem kw4_18 : Cond.methodLink "TrainNoteLaw" 30 yX7_fault ∈ AW := AW_of (in_tables_1_4 (List.mem_of_getElem? (i := 18) rfl)) rfl
theorem kw4_19 : Cond.instanceMethod yX7_fault ∈ AW := AW_of (in_tables_1_4 (List.mem_of_getElem? (i := 19) rfl)) rfl
theorem kw4_20 : Cond.selects "TrainNoteModel" yX7_fault yX7_fault ∈ AW := AW_of (in_tables_1_4 (List.mem_of_getElem? (i := 20) rfl)) rfl
theorem kw4_21 : Cond.code yX7_fault prog_9_method_27_code 2 (some .int) ∈ AW := AW_of (in_tables_1_4 (List.mem_of_getElem? (i := 21) rfl)) rfl
theorem kw4_22 : Cond.methodLink "TrainNoteModel" 110 yX7_readsSingers ∈ AW := AW_of (in_tables_1_4 (List.mem_of_getElem? (i := 22) rfl)) rfl
theorem kw4_24 : Cond.instanceMethod yX7_readsSingers ∈ AW := AW_of (in_tables_1_4 (List.mem_of_getElem? (i := 24) rfl)) rfl
theorem kw4_25 : Cond.code yX7_readsSingers prog_9_method_25_code 5 (some .int) ∈ AW := AW_of (in_tables_1_4 (List.mem_of_getElem? (i := 25) rfl)) rfl
theorem kw4_26 : Cond.methodLink "TrainNoteModel" 104 yX7_tellsOf ∈ AW := AW_of (in_tables_1_4 (List.mem_of_getElem? (i := 26) rfl)) rfl
theorem kw4_27 : Cond.static yX7_tellsOf ∈ AW := AW_of (in_tables_1_4 (List.mem_of_getElem? (i := 27) rfl)) rfl
theorem kw4_28 : Cond.code yX7_tellsOf prog_9_method_24_code 2 (some .int) ∈ AW := AW_of (in_tables_1_4 (List.mem_of_getElem? (i := 28) rfl)) rfl
theorem kw4_29 : Cond.constantLong "TrainNoteModel" 97 (48) ∈ AW := AW_of (in_tables_1_4 (List.mem_of_getElem? (i := 29) rfl)) rfl
theorem kw4_30 : Cond.constantLong "TrainNoteModel" 99 (57) ∈ AW := AW_of (in_tables_1_4 (List.mem_of_getElem? (i := 30) rfl)) rfl
theorem kw4_31 : Cond.methodLink "TrainNoteModel" 114 yX7_readsBars ∈ AW := AW_of (in_tables_1_4 (List.mem_of_getElem? (i := 31) rfl)) rfl
theorem kw4_33 : Cond.instanceMethod yX7_readsBars ∈ AW := AW_of (in_tables_1_4 (List.mem_of_getElem? (i := 33) rfl)) rfl
theorem kw4_34 : Cond.code yX7_readsBars prog_9_method_26_code 4 (some .int) ∈ AW := AW_of (in_tables_1_4 (List.mem_of_getElem? (i := 34) rfl)) rfl
theorem kw4_35 : Cond.methodLink "TrainNoteLaw" 34 yX7_singer ∈ AW := AW_of (in_tables_1_4 (List.mem_of_getElem? (i := 35) rfl)) rfl
theorem kw4_36 : Cond.instanceMethod yX7_singer ∈ AW := AW_of (in_tables_1_4 (List.mem_of_getElem? (i := 36) rfl)) rfl
theorem kw4_37 : Cond.selects "TrainNoteModel" yX7_singer yX7_singer ∈ AW := AW_of (in_tables_1_4 (List.mem_of_getElem? (i := 37) rfl)) rfl
theorem kw4_38 : Cond.code yX7_singer prog_9_method_30_code 3 (some .int) ∈ AW := AW_of (in_tables_1_4 (List.mem_of_getElem? (i := 38) rfl)) rfl
theorem kw4_39 : Cond.methodLink "TrainNoteModel" 117 yX7_isSinger ∈ AW := AW_of (in_tables_1_4 (List.mem_of_getElem? (i := 39) rfl)) rfl
theorem kw4_41 : Cond.instanceMethod yX7_isSinger ∈ AW := AW_of (in_tables_1_4 (List.mem_of_getElem? (i := 41) rfl)) rfl
theorem kw4_42 : Cond.code yX7_isSinger prog_9_method_28_code 2 (some .boolean) ∈ AW := AW_of (in_tables_1_4 (List.mem_of_getElem? (i := 42) rfl)) rfl
theorem kw4_43 : Cond.methodLink "TrainNoteLaw" 38 yX7_bar ∈ AW := AW_of (in_tables_1_4 (List.mem_of_getElem? (i := 43) rfl)) rfl
theorem kw4_44 : Cond.instanceMethod yX7_bar ∈ AW := AW_of (in_tables_1_4 (List.mem_of_getElem? (i := 44) rfl)) rfl
theorem kw4_45 : Cond.selects "TrainNoteModel" yX7_bar yX7_bar ∈ AW := AW_of (in_tables_1_4 (List.mem_of_getElem? (i := 45) rfl)) rfl
theorem kw4_46 : Cond.code yX7_bar prog_9_method_31_code 2 (some .int) ∈ AW := AW_of (in_tables_1_4 (List.mem_of_getElem? (i := 46) rfl)) rfl
theorem kw4_47 : Cond.constantLong "TrainNoteModel" 120 (23) ∈ AW := AW_of (in_tables_1_4 (List.mem_of_getElem? (i := 47) rfl)) rfl
theorem kw4_48 : Cond.methodLink "TrainNoteLaw" 42 yX7_set ∈ AW := AW_of (in_tables_1_4 (List.mem_of_getElem? (i := 48) rfl)) rfl
theorem kw4_49 : Cond.instanceMethod yX7_set ∈ AW := AW_of (in_tables_1_4 (List.mem_of_getElem? (i := 49) rfl)) rfl
theorem kw4_50 : Cond.selects "TrainNoteModel" yX7_set yX7_set ∈ AW := AW_of (in_tables_1_4 (List.mem_of_getElem? (i := 50) rfl)) rfl
theorem kw4_51 : Cond.code yX7_set prog_9_method_32_code 4 (some .int) ∈ AW := AW_of (in_tables_1_4 (List.mem_of_getElem? (i := 51) rfl)) rfl
theorem kw4_52 : Cond.constantLong "TrainNoteModel" 122 (9) ∈ AW := AW_of (in_tables_1_4 (List.mem_of_getElem? (i := 52) rfl)) rfl
theorem kw4_53 : Cond.constantLong "TrainNoteModel" 124 (18) ∈ AW := AW_of (in_tables_1_4 (List.mem_of_getElem? (i := 53) rfl)) rfl
theorem kw4_54 : Cond.constantLong "TrainNoteModel" 126 (99) ∈ AW := AW_of (in_tables_1_4 (List.mem_of_getElem? (i := 54) rfl)) rfl
theorem kw4_55 : Cond.methodLink "TrainNoteLaw" 46 yX7_whistle ∈ AW := AW_of (in_tables_1_4 (List.mem_of_getElem? (i := 55) rfl)) rfl
theorem kw4_56 : Cond.instanceMethod yX7_whistle ∈ AW := AW_of (in_tables_1_4 (List.mem_of_getElem? (i := 56) rfl)) rfl
theorem kw4_57 : Cond.selects "TrainNoteModel" yX7_whistle yX7_whistle ∈ AW := AW_of (in_tables_1_4 (List.mem_of_getElem? (i := 57) rfl)) rfl
theorem kw4_58 : Cond.code yX7_whistle prog_9_method_34_code 2 (some .int) ∈ AW := AW_of (in_tables_1_4 (List.mem_of_getElem? (i := 58) rfl)) rfl
theorem kw4_59 : Cond.methodLink "TrainNoteModel" 128 yX7_whistleAt ∈ AW := AW_of (in_tables_1_4 (List.mem_of_getElem? (i := 59) rfl)) rfl
theorem kw4_61 : Cond.instanceMethod yX7_whistleAt ∈ AW := AW_of (in_tables_1_4 (List.mem_of_getElem? (i := 61) rfl)) rfl
theorem kw4_62 : Cond.code yX7_whistleAt prog_9_method_33_code 2 (some .int) ∈ AW := AW_of (in_tables_1_4 (List.mem_of_getElem? (i := 62) rfl)) rfl
theorem kw4_63 : Cond.methodLink "TrainNoteLaw" 50 yX7_ear ∈ AW := AW_of (in_tables_1_4 (List.mem_of_getElem? (i := 63) rfl)) rfl
theorem kw4_64 : Cond.instanceMethod yX7_ear ∈ AW := AW_of (in_tables_1_4 (List.mem_of_getElem? (i := 64) rfl)) rfl
theorem kw4_65 : Cond.selects "TrainNoteModel" yX7_ear yX7_ear ∈ AW := AW_of (in_tables_1_4 (List.mem_of_getElem? (i := 65) rfl)) rfl
theorem kw4_66 : Cond.code yX7_ear prog_9_method_40_code 3 (some .int) ∈ AW := AW_of (in_tables_1_4 (List.mem_of_getElem? (i := 66) rfl)) rfl
theorem kw4_67 : Cond.methodLink "TrainNoteModel" 147 yX7_find ∈ AW := AW_of (in_tables_1_4 (List.mem_of_getElem? (i := 67) rfl)) rfl
theorem kw4_69 : Cond.instanceMethod yX7_find ∈ AW := AW_of (in_tables_1_4 (List.mem_of_getElem? (i := 69) rfl)) rfl
theorem kw4_70 : Cond.code yX7_find prog_9_method_39_code 2 none ∈ AW := AW_of (in_tables_1_4 (List.mem_of_getElem? (i := 70) rfl)) rfl
theorem kw4_71 : Cond.methodLink "TrainNoteModel" 144 yX7_findNotes ∈ AW := AW_of (in_tables_1_4 (List.mem_of_getElem? (i := 71) rfl)) rfl
theorem kw4_73 : Cond.instanceMethod yX7_findNotes ∈ AW := AW_of (in_tables_1_4 (List.mem_of_getElem? (i := 73) rfl)) rfl
theorem kw4_74 : Cond.code yX7_findNotes prog_9_method_38_code 2 none ∈ AW := AW_of (in_tables_1_4 (List.mem_of_getElem? (i := 74) rfl)) rfl
theorem kw4_75 : Cond.methodLink "TrainNoteModel" 137 yX7_nearest ∈ AW := AW_of (in_tables_1_4 (List.mem_of_getElem? (i := 75) rfl)) rfl
theorem kw4_77 : Cond.instanceMethod yX7_nearest ∈ AW := AW_of (in_tables_1_4 (List.mem_of_getElem? (i := 77) rfl)) rfl
theorem kw4_78 : Cond.code yX7_nearest prog_9_method_35_code 5 (some .int) ∈ AW := AW_of (in_tables_1_4 (List.mem_of_getElem? (i := 78) rfl)) rfl
theorem kw4_79 : Cond.methodLink "TrainNoteModel" 131 yX7_amount ∈ AW := AW_of (in_tables_1_4 (List.mem_of_getElem? (i := 79) rfl)) rfl
theorem kw4_80 : Cond.static yX7_amount ∈ AW := AW_of (in_tables_1_4 (List.mem_of_getElem? (i := 80) rfl)) rfl
theorem kw4_81 : Cond.code yX7_amount prog_9_method_10_code 1 (some .int) ∈ AW := AW_of (in_tables_1_4 (List.mem_of_getElem? (i := 81) rfl)) rfl
theorem kw4_82 : Cond.methodLink "TrainNoteModel" 140 yX7_listens ∈ AW := AW_of (in_tables_1_4 (List.mem_of_getElem? (i := 82) rfl)) rfl
theorem kw4_84 : Cond.instanceMethod yX7_listens ∈ AW := AW_of (in_tables_1_4 (List.mem_of_getElem? (i := 84) rfl)) rfl
theorem kw4_85 : Cond.code yX7_listens prog_9_method_37_code 5 none ∈ AW := AW_of (in_tables_1_4 (List.mem_of_getElem? (i := 85) rfl)) rfl
theorem kw4_86 : Cond.methodLink "TrainNoteModel" 134 yX7_wrongBy ∈ AW := AW_of (in_tables_1_4 (List.mem_of_getElem? (i := 86) rfl)) rfl
theorem kw4_88 : Cond.instanceMethod yX7_wrongBy ∈ AW := AW_of (in_tables_1_4 (List.mem_of_getElem? (i := 88) rfl)) rfl
theorem kw4_89 : Cond.code yX7_wrongBy prog_9_method_36_code 3 (some .int) ∈ AW := AW_of (in_tables_1_4 (List.mem_of_getElem? (i := 89) rfl)) rfl
theorem kw4_90 : Cond.methodLink "TrainNoteLaw" 54 yX7_note ∈ AW := AW_of (in_tables_1_4 (List.mem_of_getElem? (i := 90) rfl)) rfl
theorem kw4_91 : Cond.instanceMethod yX7_note ∈ AW := AW_of (in_tables_1_4 (List.mem_of_getElem? (i := 91) rfl)) rfl
theorem kw4_92 : Cond.selects "TrainNoteModel" yX7_note yX7_note ∈ AW := AW_of (in_tables_1_4 (List.mem_of_getElem? (i := 92) rfl)) rfl
theorem kw4_93 : Cond.code yX7_note prog_9_method_43_code 3 (some .int) ∈ AW := AW_of (in_tables_1_4 (List.mem_of_getElem? (i := 93) rfl)) rfl
theorem kw4_94 : Cond.methodLink "TrainNoteModel" 153 yX7_isBar ∈ AW := AW_of (in_tables_1_4 (List.mem_of_getElem? (i := 94) rfl)) rfl
theorem kw4_96 : Cond.instanceMethod yX7_isBar ∈ AW := AW_of (in_tables_1_4 (List.mem_of_getElem? (i := 96) rfl)) rfl
theorem kw4_97 : Cond.code yX7_isBar prog_9_method_29_code 2 (some .boolean) ∈ AW := AW_of (in_tables_1_4 (List.mem_of_getElem? (i := 97) rfl)) rfl
theorem kw4_98 : Cond.methodLink "TrainNoteModel" 156 yX7_noteOr ∈ AW := AW_of (in_tables_1_4 (List.mem_of_getElem? (i := 98) rfl)) rfl
theorem kw4_100 : Cond.instanceMethod yX7_noteOr ∈ AW := AW_of (in_tables_1_4 (List.mem_of_getElem? (i := 100) rfl)) rfl
theorem kw4_101 : Cond.code yX7_noteOr prog_9_method_42_code 3 (some .int) ∈ AW := AW_of (in_tables_1_4 (List.mem_of_getElem? (i := 101) rfl)) rfl
theorem kw4_102 : Cond.methodLink "TrainNoteModel" 150 yX7_noteIn ∈ AW := AW_of (in_tables_1_4 (List.mem_of_getElem? (i := 102) rfl)) rfl
theorem kw4_104 : Cond.instanceMethod yX7_noteIn ∈ AW := AW_of (in_tables_1_4 (List.mem_of_getElem? (i := 104) rfl)) rfl
theorem kw4_105 : Cond.code yX7_noteIn prog_9_method_41_code 5 (some .int) ∈ AW := AW_of (in_tables_1_4 (List.mem_of_getElem? (i := 105) rfl)) rfl
theorem kw4_106 : Cond.methodLink "TrainNoteLaw" 58 yX7_away ∈ AW := AW_of (in_tables_1_4 (List.mem_of_getElem? (i := 106) rfl)) rfl
theorem kw4_107 : Cond.instanceMethod yX7_away ∈ AW := AW_of (in_tables_1_4 (List.mem_of_getElem? (i := 107) rfl)) rfl
theorem kw4_108 : Cond.selects "TrainNoteModel" yX7_away yX7_away ∈ AW := AW_of (in_tables_1_4 (List.mem_of_getElem? (i := 108) rfl)) rfl
theorem kw4_109 : Cond.code yX7_away prog_9_method_44_code 3 (some .int) ∈ AW := AW_of (in_tables_1_4 (List.mem_of_getElem? (i := 109) rfl)) rfl
theorem kw4_110 : Cond.methodLink "TrainNoteLaw" 62 yX7_chord ∈ AW := AW_of (in_tables_1_4 (List.mem_of_getElem? (i := 110) rfl)) rfl
theorem kw4_111 : Cond.instanceMethod yX7_chord ∈ AW := AW_of (in_tables_1_4 (List.mem_of_getElem? (i := 111) rfl)) rfl
theorem kw4_112 : Cond.selects "TrainNoteModel" yX7_chord yX7_chord ∈ AW := AW_of (in_tables_1_4 (List.mem_of_getElem? (i := 112) rfl)) rfl
theorem kw4_113 : Cond.code yX7_chord prog_9_method_49_code 3 (some .int) ∈ AW := AW_of (in_tables_1_4 (List.mem_of_getElem? (i := 113) rfl)) rfl
theorem kw4_114 : Cond.methodLink "TrainNoteModel" 178 yX7_chordBy ∈ AW := AW_of (in_tables_1_4 (List.mem_of_getElem? (i := 114) rfl)) rfl
theorem kw4_116 : Cond.instanceMethod yX7_chordBy ∈ AW := AW_of (in_tables_1_4 (List.mem_of_getElem? (i := 116) rfl)) rfl
theorem kw4_117 : Cond.code yX7_chordBy prog_9_method_48_code 3 (some .int) ∈ AW := AW_of (in_tables_1_4 (List.mem_of_getElem? (i := 117) rfl)) rfl
theorem kw4_118 : Cond.methodLink "TrainNoteModel" 169 yX7_spreadOf ∈ AW := AW_of (in_tables_1_4 (List.mem_of_getElem? (i := 118) rfl)) rfl
theorem kw4_120 : Cond.instanceMethod yX7_spreadOf ∈ AW := AW_of (in_tables_1_4 (List.mem_of_getElem? (i := 120) rfl)) rfl
theorem kw4_121 : Cond.code yX7_spreadOf prog_9_method_45_code 8 (some .int) ∈ AW := AW_of (in_tables_1_4 (List.mem_of_getElem? (i := 121) rfl)) rfl
theorem kw4_122 : Cond.methodLink "TrainNoteModel" 159 yX7_isIn ∈ AW := AW_of (in_tables_1_4 (List.mem_of_getElem? (i := 122) rfl)) rfl
theorem kw4_123 : Cond.static yX7_isIn ∈ AW := AW_of (in_tables_1_4 (List.mem_of_getElem? (i := 123) rfl)) rfl
theorem kw4_124 : Cond.code yX7_isIn prog_9_method_6_code 2 (some .boolean) ∈ AW := AW_of (in_tables_1_4 (List.mem_of_getElem? (i := 124) rfl)) rfl
theorem kw4_125 : Cond.methodLink "TrainNoteModel" 163 yX7_lesser ∈ AW := AW_of (in_tables_1_4 (List.mem_of_getElem? (i := 125) rfl)) rfl
theorem kw4_126 : Cond.static yX7_lesser ∈ AW := AW_of (in_tables_1_4 (List.mem_of_getElem? (i := 126) rfl)) rfl
theorem kw4_127 : Cond.code yX7_lesser prog_9_method_8_code 2 (some .int) ∈ AW := AW_of (in_tables_1_4 (List.mem_of_getElem? (i := 127) rfl)) rfl
theorem kw4_128 : Cond.methodLink "TrainNoteModel" 166 yX7_greater ∈ AW := AW_of (in_tables_1_4 (List.mem_of_getElem? (i := 128) rfl)) rfl
theorem kw4_129 : Cond.static yX7_greater ∈ AW := AW_of (in_tables_1_4 (List.mem_of_getElem? (i := 129) rfl)) rfl
theorem kw4_130 : Cond.code yX7_greater prog_9_method_9_code 2 (some .int) ∈ AW := AW_of (in_tables_1_4 (List.mem_of_getElem? (i := 130) rfl)) rfl
theorem kw4_131 : Cond.methodLink "TrainNoteModel" 172 yX7_closes ∈ AW := AW_of (in_tables_1_4 (List.mem_of_getElem? (i := 131) rfl)) rfl
theorem kw4_133 : Cond.instanceMethod yX7_closes ∈ AW := AW_of (in_tables_1_4 (List.mem_of_getElem? (i := 133) rfl)) rfl
theorem kw4_134 : Cond.code yX7_closes prog_9_method_46_code 2 (some .boolean) ∈ AW := AW_of (in_tables_1_4 (List.mem_of_getElem? (i := 134) rfl)) rfl
theorem kw4_135 : Cond.methodLink "TrainNoteModel" 175 yX7_flattestIn ∈ AW := AW_of (in_tables_1_4 (List.mem_of_getElem? (i := 135) rfl)) rfl
theorem kw4_137 : Cond.instanceMethod yX7_flattestIn ∈ AW := AW_of (in_tables_1_4 (List.mem_of_getElem? (i := 137) rfl)) rfl
theorem kw4_138 : Cond.code yX7_flattestIn prog_9_method_47_code 4 (some .int) ∈ AW := AW_of (in_tables_1_4 (List.mem_of_getElem? (i := 138) rfl)) rfl
theorem kw4_139 : Cond.methodLink "TrainNoteLaw" 66 yX7_open ∈ AW := AW_of (in_tables_1_4 (List.mem_of_getElem? (i := 139) rfl)) rfl
theorem kw4_140 : Cond.instanceMethod yX7_open ∈ AW := AW_of (in_tables_1_4 (List.mem_of_getElem? (i := 140) rfl)) rfl
theorem kw4_141 : Cond.selects "TrainNoteModel" yX7_open yX7_open ∈ AW := AW_of (in_tables_1_4 (List.mem_of_getElem? (i := 141) rfl)) rfl
theorem kw4_142 : Cond.code yX7_open prog_9_method_51_code 2 (some .int) ∈ AW := AW_of (in_tables_1_4 (List.mem_of_getElem? (i := 142) rfl)) rfl
theorem kw4_143 : Cond.methodLink "TrainNoteModel" 181 yX7_openBy ∈ AW := AW_of (in_tables_1_4 (List.mem_of_getElem? (i := 143) rfl)) rfl
theorem kw4_145 : Cond.instanceMethod yX7_openBy ∈ AW := AW_of (in_tables_1_4 (List.mem_of_getElem? (i := 145) rfl)) rfl
theorem kw4_146 : Cond.code yX7_openBy prog_9_method_50_code 5 (some .int) ∈ AW := AW_of (in_tables_1_4 (List.mem_of_getElem? (i := 146) rfl)) rfl
theorem kw4_147 : Cond.methodLink "TrainNoteLaw" 70 yX7_stand ∈ AW := AW_of (in_tables_1_4 (List.mem_of_getElem? (i := 147) rfl)) rfl
theorem kw4_148 : Cond.instanceMethod yX7_stand ∈ AW := AW_of (in_tables_1_4 (List.mem_of_getElem? (i := 148) rfl)) rfl
theorem kw4_149 : Cond.selects "TrainNoteModel" yX7_stand yX7_stand ∈ AW := AW_of (in_tables_1_4 (List.mem_of_getElem? (i := 149) rfl)) rfl
theorem kw4_150 : Cond.code yX7_stand prog_9_method_54_code 3 (some .int) ∈ AW := AW_of (in_tables_1_4 (List.mem_of_getElem? (i := 150) rfl)) rfl
theorem kw4_151 : Cond.constantLong "TrainNoteModel" 188 (-1) ∈ AW := AW_of (in_tables_1_4 (List.mem_of_getElem? (i := 151) rfl)) rfl
theorem kw4_152 : Cond.constantLong "TrainNoteModel" 190 (4) ∈ AW := AW_of (in_tables_1_4 (List.mem_of_getElem? (i := 152) rfl)) rfl
theorem kw4_153 : Cond.methodLink "TrainNoteModel" 192 yX7_standOf ∈ AW := AW_of (in_tables_1_4 (List.mem_of_getElem? (i := 153) rfl)) rfl
theorem kw4_155 : Cond.instanceMethod yX7_standOf ∈ AW := AW_of (in_tables_1_4 (List.mem_of_getElem? (i := 155) rfl)) rfl
theorem kw4_156 : Cond.code yX7_standOf prog_9_method_53_code 9 (some .int) ∈ AW := AW_of (in_tables_1_4 (List.mem_of_getElem? (i := 156) rfl)) rfl
theorem kw4_157 : Cond.methodLink "TrainNoteModel" 184 yX7_unfolds ∈ AW := AW_of (in_tables_1_4 (List.mem_of_getElem? (i := 157) rfl)) rfl
theorem kw4_159 : Cond.instanceMethod yX7_unfolds ∈ AW := AW_of (in_tables_1_4 (List.mem_of_getElem? (i := 159) rfl)) rfl
theorem kw4_160 : Cond.code yX7_unfolds prog_9_method_52_code 6 none ∈ AW := AW_of (in_tables_1_4 (List.mem_of_getElem? (i := 160) rfl)) rfl
theorem kw4_161 : Cond.methodLink "TrainNoteLaw" 74 yX7_hush ∈ AW := AW_of (in_tables_1_4 (List.mem_of_getElem? (i := 161) rfl)) rfl
theorem kw4_162 : Cond.instanceMethod yX7_hush ∈ AW := AW_of (in_tables_1_4 (List.mem_of_getElem? (i := 162) rfl)) rfl
theorem kw4_163 : Cond.selects "TrainNoteModel" yX7_hush yX7_hush ∈ AW := AW_of (in_tables_1_4 (List.mem_of_getElem? (i := 163) rfl)) rfl
theorem kw4_164 : Cond.code yX7_hush prog_9_method_56_code 3 (some .int) ∈ AW := AW_of (in_tables_1_4 (List.mem_of_getElem? (i := 164) rfl)) rfl
theorem kw4_165 : Cond.methodLink "TrainNoteModel" 198 yX7_hushOf ∈ AW := AW_of (in_tables_1_4 (List.mem_of_getElem? (i := 165) rfl)) rfl
theorem kw4_167 : Cond.instanceMethod yX7_hushOf ∈ AW := AW_of (in_tables_1_4 (List.mem_of_getElem? (i := 167) rfl)) rfl
theorem kw4_168 : Cond.code yX7_hushOf prog_9_method_55_code 5 (some .int) ∈ AW := AW_of (in_tables_1_4 (List.mem_of_getElem? (i := 168) rfl)) rfl
theorem kw4_169 : Cond.methodLink "TrainNoteModel" 195 yX7_ones ∈ AW := AW_of (in_tables_1_4 (List.mem_of_getElem? (i := 169) rfl)) rfl
theorem kw4_170 : Cond.static yX7_ones ∈ AW := AW_of (in_tables_1_4 (List.mem_of_getElem? (i := 170) rfl)) rfl
theorem kw4_171 : Cond.code yX7_ones prog_9_method_7_code 3 (some .int) ∈ AW := AW_of (in_tables_1_4 (List.mem_of_getElem? (i := 171) rfl)) rfl
theorem kw4_172 : Cond.methodLink "TrainNoteLaw" 78 yX7_drive ∈ AW := AW_of (in_tables_1_4 (List.mem_of_getElem? (i := 172) rfl)) rfl
theorem kw4_173 : Cond.instanceMethod yX7_drive ∈ AW := AW_of (in_tables_1_4 (List.mem_of_getElem? (i := 173) rfl)) rfl
theorem kw4_174 : Cond.selects "TrainNoteModel" yX7_drive yX7_drive ∈ AW := AW_of (in_tables_1_4 (List.mem_of_getElem? (i := 174) rfl)) rfl
theorem kw4_175 : Cond.code yX7_drive prog_9_method_58_code 3 (some .int) ∈ AW := AW_of (in_tables_1_4 (List.mem_of_getElem? (i := 175) rfl)) rfl
theorem kw4_176 : Cond.methodLink "TrainNoteModel" 201 yX7_driveOf ∈ AW := AW_of (in_tables_1_4 (List.mem_of_getElem? (i := 176) rfl)) rfl
theorem kw4_178 : Cond.instanceMethod yX7_driveOf ∈ AW := AW_of (in_tables_1_4 (List.mem_of_getElem? (i := 178) rfl)) rfl
theorem kw4_179 : Cond.code yX7_driveOf prog_9_method_57_code 9 (some .int) ∈ AW := AW_of (in_tables_1_4 (List.mem_of_getElem? (i := 179) rfl)) rfl
theorem kw4_180 : Cond.methodLink "TrainNoteLaw" 83 yX7_heard ∈ AW := AW_of (in_tables_1_4 (List.mem_of_getElem? (i := 180) rfl)) rfl
theorem kw4_181 : Cond.instanceMethod yX7_heard ∈ AW := AW_of (in_tables_1_4 (List.mem_of_getElem? (i := 181) rfl)) rfl
theorem kw4_182 : Cond.selects "TrainNoteModel" yX7_heard yX7_heard ∈ AW := AW_of (in_tables_1_4 (List.mem_of_getElem? (i := 182) rfl)) rfl
theorem kw4_183 : Cond.code yX7_heard prog_9_method_59_code 4 (some .int) ∈ AW := AW_of (in_tables_1_4 (List.mem_of_getElem? (i := 183) rfl)) rfl
theorem kw4_184 : Cond.constantLong "TrainNoteModel" 204 (7) ∈ AW := AW_of (in_tables_1_4 (List.mem_of_getElem? (i := 184) rfl)) rfl
theorem kw4_185 : Cond.constantLong "TrainNoteModel" 206 (2000) ∈ AW := AW_of (in_tables_1_4 (List.mem_of_getElem? (i := 185) rfl)) rfl
theorem kw4_186 : Cond.methodLink "TrainNoteLaw" 88 yX7_forget ∈ AW := AW_of (in_tables_1_4 (List.mem_of_getElem? (i := 186) rfl)) rfl
theorem kw4_187 : Cond.instanceMethod yX7_forget ∈ AW := AW_of (in_tables_1_4 (List.mem_of_getElem? (i := 187) rfl)) rfl
theorem kw4_188 : Cond.selects "TrainNoteModel" yX7_forget yX7_forget ∈ AW := AW_of (in_tables_1_4 (List.mem_of_getElem? (i := 188) rfl)) rfl
theorem kw4_189 : Cond.code yX7_forget prog_9_method_60_code 2 (some .int) ∈ AW := AW_of (in_tables_1_4 (List.mem_of_getElem? (i := 189) rfl)) rfl
theorem kw4_190 : Cond.methodLink "TrainNoteLaw" 92 yX7_read ∈ AW := AW_of (in_tables_1_4 (List.mem_of_getElem? (i := 190) rfl)) rfl
theorem kw4_191 : Cond.instanceMethod yX7_read ∈ AW := AW_of (in_tables_1_4 (List.mem_of_getElem? (i := 191) rfl)) rfl
theorem kw4_192 : Cond.selects "TrainNoteModel" yX7_read yX7_read ∈ AW := AW_of (in_tables_1_4 (List.mem_of_getElem? (i := 192) rfl)) rfl
theorem kw4_193 : Cond.code yX7_read prog_9_method_61_code 5 (some .int) ∈ AW := AW_of (in_tables_1_4 (List.mem_of_getElem? (i := 193) rfl)) rfl
theorem kw4_194 : Cond.methodLink "TrainNoteModel" 211 yX7_heard ∈ AW := AW_of (in_tables_1_4 (List.mem_of_getElem? (i := 194) rfl)) rfl
theorem kw4_195 : Cond.methodLink "TrainNoteLaw" 96 yX7_speeds ∈ AW := AW_of (in_tables_1_4 (List.mem_of_getElem? (i := 195) rfl)) rfl
theorem kw4_196 : Cond.instanceMethod yX7_speeds ∈ AW := AW_of (in_tables_1_4 (List.mem_of_getElem? (i := 196) rfl)) rfl
theorem kw4_197 : Cond.selects "TrainNoteModel" yX7_speeds yX7_speeds ∈ AW := AW_of (in_tables_1_4 (List.mem_of_getElem? (i := 197) rfl)) rfl
theorem kw4_198 : Cond.code yX7_speeds prog_9_method_64_code 2 (some .int) ∈ AW := AW_of (in_tables_1_4 (List.mem_of_getElem? (i := 198) rfl)) rfl
theorem kw4_199 : Cond.methodLink "TrainNoteModel" 218 yX7_speedsOf ∈ AW := AW_of (in_tables_1_4 (List.mem_of_getElem? (i := 199) rfl)) rfl
theorem kw4_201 : Cond.instanceMethod yX7_speedsOf ∈ AW := AW_of (in_tables_1_4 (List.mem_of_getElem? (i := 201) rfl)) rfl
theorem kw4_202 : Cond.code yX7_speedsOf prog_9_method_63_code 7 (some .int) ∈ AW := AW_of (in_tables_1_4 (List.mem_of_getElem? (i := 202) rfl)) rfl
theorem kw4_203 : Cond.methodLink "TrainNoteModel" 214 yX7_isHeard ∈ AW := AW_of (in_tables_1_4 (List.mem_of_getElem? (i := 203) rfl)) rfl
theorem kw4_205 : Cond.instanceMethod yX7_isHeard ∈ AW := AW_of (in_tables_1_4 (List.mem_of_getElem? (i := 205) rfl)) rfl
theorem kw4_206 : Cond.code yX7_isHeard prog_9_method_62_code 5 (some .boolean) ∈ AW := AW_of (in_tables_1_4 (List.mem_of_getElem? (i := 206) rfl)) rfl
theorem kw4_207 : Cond.methodLink "TrainNoteLaw" 100 yX7_cows ∈ AW := AW_of (in_tables_1_4 (List.mem_of_getElem? (i := 207) rfl)) rfl
theorem kw4_208 : Cond.instanceMethod yX7_cows ∈ AW := AW_of (in_tables_1_4 (List.mem_of_getElem? (i := 208) rfl)) rfl
theorem kw4_209 : Cond.selects "TrainNoteModel" yX7_cows yX7_cows ∈ AW := AW_of (in_tables_1_4 (List.mem_of_getElem? (i := 209) rfl)) rfl
theorem kw4_210 : Cond.code yX7_cows prog_9_method_66_code 1 (some .int) ∈ AW := AW_of (in_tables_1_4 (List.mem_of_getElem? (i := 210) rfl)) rfl
theorem kw4_211 : Cond.methodLink "TrainNoteModel" 221 yX7_cowsNow ∈ AW := AW_of (in_tables_1_4 (List.mem_of_getElem? (i := 211) rfl)) rfl
theorem kw4_213 : Cond.instanceMethod yX7_cowsNow ∈ AW := AW_of (in_tables_1_4 (List.mem_of_getElem? (i := 213) rfl)) rfl
theorem kw4_214 : Cond.code yX7_cowsNow prog_9_method_65_code 4 (some .int) ∈ AW := AW_of (in_tables_1_4 (List.mem_of_getElem? (i := 214) rfl)) rfl
theorem kw4_215 : Cond.methodLink "TrainNoteLaw" 104 yX7_ask ∈ AW := AW_of (in_tables_1_4 (List.mem_of_getElem? (i := 215) rfl)) rfl
theorem kw4_216 : Cond.instanceMethod yX7_ask ∈ AW := AW_of (in_tables_1_4 (List.mem_of_getElem? (i := 216) rfl)) rfl
theorem kw4_217 : Cond.selects "TrainNoteModel" yX7_ask yX7_ask ∈ AW := AW_of (in_tables_1_4 (List.mem_of_getElem? (i := 217) rfl)) rfl
theorem kw4_218 : Cond.code yX7_ask prog_9_method_69_code 1 (some .int) ∈ AW := AW_of (in_tables_1_4 (List.mem_of_getElem? (i := 218) rfl)) rfl
theorem kw4_219 : Cond.methodLink "TrainNoteModel" 227 yX7_askNow ∈ AW := AW_of (in_tables_1_4 (List.mem_of_getElem? (i := 219) rfl)) rfl
theorem kw4_221 : Cond.instanceMethod yX7_askNow ∈ AW := AW_of (in_tables_1_4 (List.mem_of_getElem? (i := 221) rfl)) rfl
theorem kw4_222 : Cond.code yX7_askNow prog_9_method_67_code 8 (some .int) ∈ AW := AW_of (in_tables_1_4 (List.mem_of_getElem? (i := 222) rfl)) rfl
theorem kw4_223 : Cond.methodLink "TrainNoteModel" 224 yX7_mostAlike ∈ AW := AW_of (in_tables_1_4 (List.mem_of_getElem? (i := 223) rfl)) rfl
theorem kw4_225 : Cond.instanceMethod yX7_mostAlike ∈ AW := AW_of (in_tables_1_4 (List.mem_of_getElem? (i := 225) rfl)) rfl
theorem kw4_226 : Cond.code yX7_mostAlike prog_9_method_68_code 7 (some .int) ∈ AW := AW_of (in_tables_1_4 (List.mem_of_getElem? (i := 226) rfl)) rfl
theorem kw4_227 : Cond.methodLink "TrainNoteLaw" 109 yX7_herd ∈ AW := AW_of (in_tables_1_4 (List.mem_of_getElem? (i := 227) rfl)) rfl
theorem kw4_228 : Cond.instanceMethod yX7_herd ∈ AW := AW_of (in_tables_1_4 (List.mem_of_getElem? (i := 228) rfl)) rfl
theorem kw4_229 : Cond.selects "TrainNoteModel" yX7_herd yX7_herd ∈ AW := AW_of (in_tables_1_4 (List.mem_of_getElem? (i := 229) rfl)) rfl
theorem kw4_230 : Cond.code yX7_herd prog_9_method_72_code 5 (some .long) ∈ AW := AW_of (in_tables_1_4 (List.mem_of_getElem? (i := 230) rfl)) rfl
theorem kw4_231 : Cond.constantLong "TrainNoteModel" 230 (16) ∈ AW := AW_of (in_tables_1_4 (List.mem_of_getElem? (i := 231) rfl)) rfl
theorem kw4_232 : Cond.methodLink "TrainNoteModel" 236 yX7_isSung ∈ AW := AW_of (in_tables_1_4 (List.mem_of_getElem? (i := 232) rfl)) rfl
theorem kw4_234 : Cond.instanceMethod yX7_isSung ∈ AW := AW_of (in_tables_1_4 (List.mem_of_getElem? (i := 234) rfl)) rfl
theorem kw4_235 : Cond.code yX7_isSung prog_9_method_70_code 2 (some .boolean) ∈ AW := AW_of (in_tables_1_4 (List.mem_of_getElem? (i := 235) rfl)) rfl
theorem kw4_236 : Cond.methodLink "TrainNoteModel" 239 yX7_herdOf ∈ AW := AW_of (in_tables_1_4 (List.mem_of_getElem? (i := 236) rfl)) rfl
theorem kw4_238 : Cond.instanceMethod yX7_herdOf ∈ AW := AW_of (in_tables_1_4 (List.mem_of_getElem? (i := 238) rfl)) rfl
theorem kw4_239 : Cond.code yX7_herdOf prog_9_method_71_code 16 (some .long) ∈ AW := AW_of (in_tables_1_4 (List.mem_of_getElem? (i := 239) rfl)) rfl
theorem in_tables_1_5 {w : Cond} (h : w ∈ tables_1_5) : w ∈ lw_tbl := List.mem_append_right _ (List.mem_append_right _ (List.mem_append_right _ (List.mem_append_right _ (List.mem_append_right _ h))))
theorem kw5_0 : Cond.methodLink "TrainNoteModel" 232 yX7_part ∈ AW := AW_of (in_tables_1_5 (List.mem_of_getElem? (i := 0) rfl)) rfl
theorem kw5_1 : Cond.static yX7_part ∈ AW := AW_of (in_tables_1_5 (List.mem_of_getElem? (i := 1) rfl)) rfl
theorem kw5_2 : Cond.code yX7_part prog_9_method_11_code 11 (some .long) ∈ AW := AW_of (in_tables_1_5 (List.mem_of_getElem? (i := 2) rfl)) rfl
theorem kw5_3 : Cond.methodLink "TrainNoteModel" 243 yX7_no ∈ AW := AW_of (in_tables_1_5 (List.mem_of_getElem? (i := 3) rfl)) rfl
theorem kw5_4 : Cond.static yX7_no ∈ AW := AW_of (in_tables_1_5 (List.mem_of_getElem? (i := 4) rfl)) rfl
theorem kw5_5 : Cond.code yX7_no prog_9_method_4_code 1 (some .long) ∈ AW := AW_of (in_tables_1_5 (List.mem_of_getElem? (i := 5) rfl)) rfl
theorem kw5_6 : Cond.constantLong "TrainNoteModel" 61 (-9223372036854775808) ∈ AW := AW_of (in_tables_1_5 (List.mem_of_getElem? (i := 6) rfl)) rfl
theorem kw5_7 : Cond.methodLink "TrainNoteLaw" 113 yX7_times ∈ AW := AW_of (in_tables_1_5 (List.mem_of_getElem? (i := 7) rfl)) rfl
theorem kw5_8 : Cond.instanceMethod yX7_times ∈ AW := AW_of (in_tables_1_5 (List.mem_of_getElem? (i := 8) rfl)) rfl
theorem kw5_9 : Cond.selects "TrainNoteModel" yX7_times yX7_times ∈ AW := AW_of (in_tables_1_5 (List.mem_of_getElem? (i := 9) rfl)) rfl
theorem kw5_10 : Cond.code yX7_times prog_9_method_75_code 4 (some .int) ∈ AW := AW_of (in_tables_1_5 (List.mem_of_getElem? (i := 10) rfl)) rfl
theorem kw5_11 : Cond.methodLink "TrainNoteModel" 254 yX7_timesOf ∈ AW := AW_of (in_tables_1_5 (List.mem_of_getElem? (i := 11) rfl)) rfl
theorem kw5_13 : Cond.instanceMethod yX7_timesOf ∈ AW := AW_of (in_tables_1_5 (List.mem_of_getElem? (i := 13) rfl)) rfl
theorem kw5_14 : Cond.code yX7_timesOf prog_9_method_74_code 8 (some .int) ∈ AW := AW_of (in_tables_1_5 (List.mem_of_getElem? (i := 14) rfl)) rfl
theorem kw5_15 : Cond.methodLink "TrainNoteModel" 251 yX7_lot ∈ AW := AW_of (in_tables_1_5 (List.mem_of_getElem? (i := 15) rfl)) rfl
theorem kw5_17 : Cond.instanceMethod yX7_lot ∈ AW := AW_of (in_tables_1_5 (List.mem_of_getElem? (i := 17) rfl)) rfl
theorem kw5_18 : Cond.code yX7_lot prog_9_method_73_code 2 (some .int) ∈ AW := AW_of (in_tables_1_5 (List.mem_of_getElem? (i := 18) rfl)) rfl
theorem kw5_19 : Cond.constant "TrainNoteModel" 247 (1103515245) ∈ AW := AW_of (in_tables_1_5 (List.mem_of_getElem? (i := 19) rfl)) rfl
theorem kw5_20 : Cond.methodLink "TrainNoteLaw" 139 yX7_write ∈ AW := AW_of (in_tables_1_5 (List.mem_of_getElem? (i := 20) rfl)) rfl
theorem kw5_21 : Cond.instanceMethod yX7_write ∈ AW := AW_of (in_tables_1_5 (List.mem_of_getElem? (i := 21) rfl)) rfl
theorem kw5_22 : Cond.selects "TrainNoteModel" yX7_write yX7_write ∈ AW := AW_of (in_tables_1_5 (List.mem_of_getElem? (i := 22) rfl)) rfl
theorem kw5_23 : Cond.code yX7_write prog_9_method_76_code 5 (some .int) ∈ AW := AW_of (in_tables_1_5 (List.mem_of_getElem? (i := 23) rfl)) rfl
theorem kw5_24 : Cond.methodLink "TrainNoteLaw" 143 yX7_count ∈ AW := AW_of (in_tables_1_5 (List.mem_of_getElem? (i := 24) rfl)) rfl
theorem kw5_25 : Cond.instanceMethod yX7_count ∈ AW := AW_of (in_tables_1_5 (List.mem_of_getElem? (i := 25) rfl)) rfl
theorem kw5_26 : Cond.selects "TrainNoteModel" yX7_count yX7_count ∈ AW := AW_of (in_tables_1_5 (List.mem_of_getElem? (i := 26) rfl)) rfl
theorem kw5_27 : Cond.code yX7_count prog_9_method_79_code 2 (some .int) ∈ AW := AW_of (in_tables_1_5 (List.mem_of_getElem? (i := 27) rfl)) rfl
theorem kw5_28 : Cond.methodLink "TrainNoteModel" 257 yX7_silent ∈ AW := AW_of (in_tables_1_5 (List.mem_of_getElem? (i := 28) rfl)) rfl
theorem kw5_30 : Cond.instanceMethod yX7_silent ∈ AW := AW_of (in_tables_1_5 (List.mem_of_getElem? (i := 30) rfl)) rfl
theorem kw5_31 : Cond.code yX7_silent prog_9_method_77_code 3 (some .int) ∈ AW := AW_of (in_tables_1_5 (List.mem_of_getElem? (i := 31) rfl)) rfl
theorem kw5_32 : Cond.methodLink "TrainNoteModel" 260 yX7_rests ∈ AW := AW_of (in_tables_1_5 (List.mem_of_getElem? (i := 32) rfl)) rfl
theorem kw5_34 : Cond.instanceMethod yX7_rests ∈ AW := AW_of (in_tables_1_5 (List.mem_of_getElem? (i := 34) rfl)) rfl
theorem kw5_35 : Cond.code yX7_rests prog_9_method_78_code 3 (some .int) ∈ AW := AW_of (in_tables_1_5 (List.mem_of_getElem? (i := 35) rfl)) rfl
theorem kw5_36 : Cond.methodLink "TrainNoteLaw" 148 yX7_digest ∈ AW := AW_of (in_tables_1_5 (List.mem_of_getElem? (i := 36) rfl)) rfl
theorem kw5_37 : Cond.instanceMethod yX7_digest ∈ AW := AW_of (in_tables_1_5 (List.mem_of_getElem? (i := 37) rfl)) rfl
theorem kw5_38 : Cond.selects "TrainNoteModel" yX7_digest yX7_digest ∈ AW := AW_of (in_tables_1_5 (List.mem_of_getElem? (i := 38) rfl)) rfl
theorem kw5_39 : Cond.code yX7_digest prog_9_method_80_code 5 (some .long) ∈ AW := AW_of (in_tables_1_5 (List.mem_of_getElem? (i := 39) rfl)) rfl
theorem kw5_40 : Cond.constantLong "TrainNoteModel" 263 (17) ∈ AW := AW_of (in_tables_1_5 (List.mem_of_getElem? (i := 40) rfl)) rfl
theorem kw5_41 : Cond.constantLong "TrainNoteModel" 265 (31) ∈ AW := AW_of (in_tables_1_5 (List.mem_of_getElem? (i := 41) rfl)) rfl
theorem kw5_42 : Cond.methodLink "TrainNoteModel" 267 yX7_count ∈ AW := AW_of (in_tables_1_5 (List.mem_of_getElem? (i := 42) rfl)) rfl
theorem kw5_43 : Cond.methodLink "TrainNoteModel" 270 yX7_stand ∈ AW := AW_of (in_tables_1_5 (List.mem_of_getElem? (i := 43) rfl)) rfl
theorem kw5_44 : Cond.methodLink "TrainNoteModel" 273 yX7_hush ∈ AW := AW_of (in_tables_1_5 (List.mem_of_getElem? (i := 44) rfl)) rfl
theorem kw5_45 : Cond.methodLink "TrainNoteModel" 276 yX7_drive ∈ AW := AW_of (in_tables_1_5 (List.mem_of_getElem? (i := 45) rfl)) rfl
theorem kw5_46 : Cond.methodLink "TrainNoteModel" 279 yX7_herd ∈ AW := AW_of (in_tables_1_5 (List.mem_of_getElem? (i := 46) rfl)) rfl
theorem kw5_47 : Cond.methodLink "TrainNoteModel" 282 yX7_times ∈ AW := AW_of (in_tables_1_5 (List.mem_of_getElem? (i := 47) rfl)) rfl
theorem in_lw_privs_1 {q : MethodName × Nat} (h : q ∈ lw_privs_1) : Cond.selects q.1.cls q.1 q.1 ∈ AW := AW_of (List.mem_append_left _ (List.mem_map.mpr ⟨q, (List.mem_append_left _ h), rfl⟩)) rfl
theorem ks1_0 : Cond.selects "TrainNote" yX6_textOf yX6_textOf ∈ AW := in_lw_privs_1 (q := (yX6_textOf, 12)) (List.mem_of_getElem? (i := 0) rfl)
theorem ks1_1 : Cond.selects "TrainNote" yX6_parse yX6_parse ∈ AW := in_lw_privs_1 (q := (yX6_parse, 12)) (List.mem_of_getElem? (i := 1) rfl)
theorem ks1_2 : Cond.selects "TrainNote$Choir" yX0_nearestTo yX0_nearestTo ∈ AW := in_lw_privs_1 (q := (yX0_nearestTo, 9)) (List.mem_of_getElem? (i := 2) rfl)
theorem ks1_3 : Cond.selects "TrainNote$Choir" yX0_follow yX0_follow ∈ AW := in_lw_privs_1 (q := (yX0_follow, 9)) (List.mem_of_getElem? (i := 3) rfl)
theorem ks1_4 : Cond.selects "TrainNote" yX6_isNoSinger yX6_isNoSinger ∈ AW := in_lw_privs_1 (q := (yX6_isNoSinger, 12)) (List.mem_of_getElem? (i := 4) rfl)
theorem ks1_5 : Cond.selects "TrainNote" yX6_isNoBar yX6_isNoBar ∈ AW := in_lw_privs_1 (q := (yX6_isNoBar, 12)) (List.mem_of_getElem? (i := 5) rfl)
theorem ks1_6 : Cond.selects "TrainNote" yX6_spreadOf yX6_spreadOf ∈ AW := in_lw_privs_1 (q := (yX6_spreadOf, 12)) (List.mem_of_getElem? (i := 6) rfl)
theorem ks1_7 : Cond.selects "TrainNote" yX6_closes yX6_closes ∈ AW := in_lw_privs_1 (q := (yX6_closes, 12)) (List.mem_of_getElem? (i := 7) rfl)
theorem ks1_8 : Cond.selects "TrainNote" yX6_isSung yX6_isSung ∈ AW := in_lw_privs_1 (q := (yX6_isSung, 12)) (List.mem_of_getElem? (i := 8) rfl)
theorem ks1_9 : Cond.selects "TrainNote" yX6_flattestIn yX6_flattestIn ∈ AW := in_lw_privs_1 (q := (yX6_flattestIn, 12)) (List.mem_of_getElem? (i := 9) rfl)
theorem ks1_10 : Cond.selects "TrainNote" yX6_bestOrder yX6_bestOrder ∈ AW := in_lw_privs_1 (q := (yX6_bestOrder, 12)) (List.mem_of_getElem? (i := 10) rfl)
theorem ks1_11 : Cond.selects "TrainNote" yX6_spreadWhenMoved yX6_spreadWhenMoved ∈ AW := in_lw_privs_1 (q := (yX6_spreadWhenMoved, 12)) (List.mem_of_getElem? (i := 11) rfl)
theorem ks1_12 : Cond.selects "TrainNote" yX6_layOrder yX6_layOrder ∈ AW := in_lw_privs_1 (q := (yX6_layOrder, 12)) (List.mem_of_getElem? (i := 12) rfl)
theorem ks1_13 : Cond.selects "TrainNote" yX6_fewestToHush yX6_fewestToHush ∈ AW := in_lw_privs_1 (q := (yX6_fewestToHush, 12)) (List.mem_of_getElem? (i := 13) rfl)
theorem ks1_14 : Cond.selects "TrainNote" yX6_outside yX6_outside ∈ AW := in_lw_privs_1 (q := (yX6_outside, 12)) (List.mem_of_getElem? (i := 14) rfl)
theorem ks1_15 : Cond.selects "TrainNote" yX6_find yX6_find ∈ AW := in_lw_privs_1 (q := (yX6_find, 12)) (List.mem_of_getElem? (i := 15) rfl)
theorem in_lw_privs_2 {q : MethodName × Nat} (h : q ∈ lw_privs_2) : Cond.selects q.1.cls q.1 q.1 ∈ AW := AW_of (List.mem_append_left _ (List.mem_map.mpr ⟨q, (List.mem_append_right _ (List.mem_append_left _ h)), rfl⟩)) rfl
theorem ks2_0 : Cond.selects "TrainNote" yX6_findFittingSpeeds yX6_findFittingSpeeds ∈ AW := in_lw_privs_2 (q := (yX6_findFittingSpeeds, 12)) (List.mem_of_getElem? (i := 0) rfl)
theorem ks2_1 : Cond.selects "TrainNote" yX6_allComesOut yX6_allComesOut ∈ AW := in_lw_privs_2 (q := (yX6_allComesOut, 12)) (List.mem_of_getElem? (i := 1) rfl)
theorem ks2_2 : Cond.selects "TrainNote" yX6_mostAlike yX6_mostAlike ∈ AW := in_lw_privs_2 (q := (yX6_mostAlike, 12)) (List.mem_of_getElem? (i := 2) rfl)
theorem ks2_3 : Cond.selects "TrainNote" yX6_waysToClose yX6_waysToClose ∈ AW := in_lw_privs_2 (q := (yX6_waysToClose, 12)) (List.mem_of_getElem? (i := 3) rfl)
theorem ks2_4 : Cond.selects "TrainNote" yX6_mixSingers yX6_mixSingers ∈ AW := in_lw_privs_2 (q := (yX6_mixSingers, 12)) (List.mem_of_getElem? (i := 4) rfl)
theorem ks2_5 : Cond.selects "TrainNote" yX6_mixBars yX6_mixBars ∈ AW := in_lw_privs_2 (q := (yX6_mixBars, 12)) (List.mem_of_getElem? (i := 5) rfl)
theorem ks2_6 : Cond.selects "TrainNoteModel" yX7_finds yX7_finds ∈ AW := in_lw_privs_2 (q := (yX7_finds, 22)) (List.mem_of_getElem? (i := 6) rfl)
theorem ks2_7 : Cond.selects "TrainNoteModel" yX7_lacks yX7_lacks ∈ AW := in_lw_privs_2 (q := (yX7_lacks, 22)) (List.mem_of_getElem? (i := 7) rfl)
theorem ks2_8 : Cond.selects "TrainNoteModel" yX7_readsSingers yX7_readsSingers ∈ AW := in_lw_privs_2 (q := (yX7_readsSingers, 22)) (List.mem_of_getElem? (i := 8) rfl)
theorem ks2_9 : Cond.selects "TrainNoteModel" yX7_readsBars yX7_readsBars ∈ AW := in_lw_privs_2 (q := (yX7_readsBars, 22)) (List.mem_of_getElem? (i := 9) rfl)
theorem ks2_10 : Cond.selects "TrainNoteModel" yX7_isSinger yX7_isSinger ∈ AW := in_lw_privs_2 (q := (yX7_isSinger, 22)) (List.mem_of_getElem? (i := 10) rfl)
theorem ks2_11 : Cond.selects "TrainNoteModel" yX7_whistleAt yX7_whistleAt ∈ AW := in_lw_privs_2 (q := (yX7_whistleAt, 22)) (List.mem_of_getElem? (i := 11) rfl)
theorem ks2_12 : Cond.selects "TrainNoteModel" yX7_find yX7_find ∈ AW := in_lw_privs_2 (q := (yX7_find, 22)) (List.mem_of_getElem? (i := 12) rfl)
theorem ks2_13 : Cond.selects "TrainNoteModel" yX7_findNotes yX7_findNotes ∈ AW := in_lw_privs_2 (q := (yX7_findNotes, 22)) (List.mem_of_getElem? (i := 13) rfl)
theorem ks2_14 : Cond.selects "TrainNoteModel" yX7_nearest yX7_nearest ∈ AW := in_lw_privs_2 (q := (yX7_nearest, 22)) (List.mem_of_getElem? (i := 14) rfl)
theorem ks2_15 : Cond.selects "TrainNoteModel" yX7_listens yX7_listens ∈ AW := in_lw_privs_2 (q := (yX7_listens, 22)) (List.mem_of_getElem? (i := 15) rfl)
theorem in_lw_privs_3 {q : MethodName × Nat} (h : q ∈ lw_privs_3) : Cond.selects q.1.cls q.1 q.1 ∈ AW := AW_of (List.mem_append_left _ (List.mem_map.mpr ⟨q, (List.mem_append_right _ (List.mem_append_right _ (List.mem_append_left _ h))), rfl⟩)) rfl
theorem ks3_0 : Cond.selects "TrainNoteModel" yX7_wrongBy yX7_wrongBy ∈ AW := in_lw_privs_3 (q := (yX7_wrongBy, 22)) (List.mem_of_getElem? (i := 0) rfl)
theorem ks3_1 : Cond.selects "TrainNoteModel" yX7_isBar yX7_isBar ∈ AW := in_lw_privs_3 (q := (yX7_isBar, 22)) (List.mem_of_getElem? (i := 1) rfl)
theorem ks3_2 : Cond.selects "TrainNoteModel" yX7_noteOr yX7_noteOr ∈ AW := in_lw_privs_3 (q := (yX7_noteOr, 22)) (List.mem_of_getElem? (i := 2) rfl)
theorem ks3_3 : Cond.selects "TrainNoteModel" yX7_noteIn yX7_noteIn ∈ AW := in_lw_privs_3 (q := (yX7_noteIn, 22)) (List.mem_of_getElem? (i := 3) rfl)
theorem ks3_4 : Cond.selects "TrainNoteModel" yX7_chordBy yX7_chordBy ∈ AW := in_lw_privs_3 (q := (yX7_chordBy, 22)) (List.mem_of_getElem? (i := 4) rfl)
theorem ks3_5 : Cond.selects "TrainNoteModel" yX7_spreadOf yX7_spreadOf ∈ AW := in_lw_privs_3 (q := (yX7_spreadOf, 22)) (List.mem_of_getElem? (i := 5) rfl)
theorem ks3_6 : Cond.selects "TrainNoteModel" yX7_closes yX7_closes ∈ AW := in_lw_privs_3 (q := (yX7_closes, 22)) (List.mem_of_getElem? (i := 6) rfl)
theorem ks3_7 : Cond.selects "TrainNoteModel" yX7_flattestIn yX7_flattestIn ∈ AW := in_lw_privs_3 (q := (yX7_flattestIn, 22)) (List.mem_of_getElem? (i := 7) rfl)
theorem ks3_8 : Cond.selects "TrainNoteModel" yX7_openBy yX7_openBy ∈ AW := in_lw_privs_3 (q := (yX7_openBy, 22)) (List.mem_of_getElem? (i := 8) rfl)
theorem ks3_9 : Cond.selects "TrainNoteModel" yX7_standOf yX7_standOf ∈ AW := in_lw_privs_3 (q := (yX7_standOf, 22)) (List.mem_of_getElem? (i := 9) rfl)
theorem ks3_10 : Cond.selects "TrainNoteModel" yX7_unfolds yX7_unfolds ∈ AW := in_lw_privs_3 (q := (yX7_unfolds, 22)) (List.mem_of_getElem? (i := 10) rfl)
theorem ks3_11 : Cond.selects "TrainNoteModel" yX7_hushOf yX7_hushOf ∈ AW := in_lw_privs_3 (q := (yX7_hushOf, 22)) (List.mem_of_getElem? (i := 11) rfl)
theorem ks3_12 : Cond.selects "TrainNoteModel" yX7_driveOf yX7_driveOf ∈ AW := in_lw_privs_3 (q := (yX7_driveOf, 22)) (List.mem_of_getElem? (i := 12) rfl)
theorem ks3_13 : Cond.selects "TrainNoteModel" yX7_speedsOf yX7_speedsOf ∈ AW := in_lw_privs_3 (q := (yX7_speedsOf, 22)) (List.mem_of_getElem? (i := 13) rfl)
theorem ks3_14 : Cond.selects "TrainNoteModel" yX7_isHeard yX7_isHeard ∈ AW := in_lw_privs_3 (q := (yX7_isHeard, 22)) (List.mem_of_getElem? (i := 14) rfl)
theorem ks3_15 : Cond.selects "TrainNoteModel" yX7_cowsNow yX7_cowsNow ∈ AW := in_lw_privs_3 (q := (yX7_cowsNow, 22)) (List.mem_of_getElem? (i := 15) rfl)
theorem in_lw_privs_4 {q : MethodName × Nat} (h : q ∈ lw_privs_4) : Cond.selects q.1.cls q.1 q.1 ∈ AW := AW_of (List.mem_append_left _ (List.mem_map.mpr ⟨q, (List.mem_append_right _ (List.mem_append_right _ (List.mem_append_right _ h))), rfl⟩)) rfl
theorem ks4_0 : Cond.selects "TrainNoteModel" yX7_askNow yX7_askNow ∈ AW := in_lw_privs_4 (q := (yX7_askNow, 22)) (List.mem_of_getElem? (i := 0) rfl)
theorem ks4_1 : Cond.selects "TrainNoteModel" yX7_mostAlike yX7_mostAlike ∈ AW := in_lw_privs_4 (q := (yX7_mostAlike, 22)) (List.mem_of_getElem? (i := 1) rfl)
theorem ks4_2 : Cond.selects "TrainNoteModel" yX7_isSung yX7_isSung ∈ AW := in_lw_privs_4 (q := (yX7_isSung, 22)) (List.mem_of_getElem? (i := 2) rfl)
theorem ks4_3 : Cond.selects "TrainNoteModel" yX7_herdOf yX7_herdOf ∈ AW := in_lw_privs_4 (q := (yX7_herdOf, 22)) (List.mem_of_getElem? (i := 3) rfl)
theorem ks4_4 : Cond.selects "TrainNoteModel" yX7_timesOf yX7_timesOf ∈ AW := in_lw_privs_4 (q := (yX7_timesOf, 22)) (List.mem_of_getElem? (i := 4) rfl)
theorem ks4_5 : Cond.selects "TrainNoteModel" yX7_lot yX7_lot ∈ AW := in_lw_privs_4 (q := (yX7_lot, 22)) (List.mem_of_getElem? (i := 5) rfl)
theorem ks4_6 : Cond.selects "TrainNoteModel" yX7_silent yX7_silent ∈ AW := in_lw_privs_4 (q := (yX7_silent, 22)) (List.mem_of_getElem? (i := 6) rfl)
theorem ks4_7 : Cond.selects "TrainNoteModel" yX7_rests yX7_rests ∈ AW := in_lw_privs_4 (q := (yX7_rests, 22)) (List.mem_of_getElem? (i := 7) rfl)
theorem inAX0 : ∀ w ∈ u_ws RX0 TX0 9, w ∈ AW := by
  show ∀ w ∈ ([Cond.lays "TrainNote$Choir" "TrainNote$Choir" "size" "I", Cond.laysFinal "TrainNote$Choir" "TrainNote$Choir" "place" "[I", Cond.laysFinal "TrainNote$Choir" "TrainNote$Choir" "wrong" "[I", Cond.laysFinal "TrainNote$Choir" "TrainNote$Choir" "sinks" "[I", Cond.laysFinal "TrainNote$Choir" "TrainNote$Choir" "hears" "[Z", Cond.laysFinal "TrainNote$Choir" "TrainNote$Choir" "source" "[I", Cond.laysFinal "TrainNote$Choir" "TrainNote$Choir" "error" "[I", Cond.laysFinal "TrainNote$Choir" "TrainNote$Choir" "neighbour" "[I", Cond.laysFinal "TrainNote$Choir" "TrainNote$Choir" "steps" "[I"] : List Cond), w ∈ AW
  exact List.forall_mem_cons.mpr ⟨kw1_70, List.forall_mem_cons.mpr ⟨kw1_72, List.forall_mem_cons.mpr ⟨kw1_74, List.forall_mem_cons.mpr ⟨kw1_76, List.forall_mem_cons.mpr ⟨kw1_78, List.forall_mem_cons.mpr ⟨kw1_80, List.forall_mem_cons.mpr ⟨kw1_82, List.forall_mem_cons.mpr ⟨kw1_84, List.forall_mem_cons.mpr ⟨kw1_86, fun _ h => absurd h List.not_mem_nil⟩⟩⟩⟩⟩⟩⟩⟩⟩
theorem inAX1 : ∀ w ∈ u_ws RX1 TX1 4, w ∈ AW := by
  show ∀ w ∈ ([Cond.lays "TrainNote$Memory" "TrainNote$Memory" "size" "I", Cond.laysFinal "TrainNote$Memory" "TrainNote$Memory" "bar" "[I", Cond.laysFinal "TrainNote$Memory" "TrainNote$Memory" "singer" "[I", Cond.laysFinal "TrainNote$Memory" "TrainNote$Memory" "note" "[I"] : List Cond), w ∈ AW
  exact List.forall_mem_cons.mpr ⟨kw1_146, List.forall_mem_cons.mpr ⟨kw1_148, List.forall_mem_cons.mpr ⟨kw1_150, List.forall_mem_cons.mpr ⟨kw1_152, fun _ h => absurd h List.not_mem_nil⟩⟩⟩⟩
theorem inAX2 : ∀ w ∈ u_ws RX2 TX2 3, w ∈ AW := by
  show ∀ w ∈ ([Cond.laysFinal "TrainNote$Sheet" "TrainNote$Sheet" "items" "[I", Cond.lays "TrainNote$Sheet" "TrainNote$Sheet" "form" "I", Cond.lays "TrainNote$Sheet" "TrainNote$Sheet" "size" "I"] : List Cond), w ∈ AW
  exact List.forall_mem_cons.mpr ⟨kw1_168, List.forall_mem_cons.mpr ⟨kw1_170, List.forall_mem_cons.mpr ⟨kw1_172, fun _ h => absurd h List.not_mem_nil⟩⟩⟩
theorem inAX3 : ∀ w ∈ u_ws RX3 TX3 3, w ∈ AW := by
  show ∀ w ∈ ([Cond.lays "TrainNote$Song" "TrainNote$Song" "size" "I", Cond.laysFinal "TrainNote$Song" "TrainNote$Song" "kind" "[I", Cond.laysFinal "TrainNote$Song" "TrainNote$Song" "restsBefore" "[I"] : List Cond), w ∈ AW
  exact List.forall_mem_cons.mpr ⟨kw1_102, List.forall_mem_cons.mpr ⟨kw1_104, List.forall_mem_cons.mpr ⟨kw1_106, fun _ h => absurd h List.not_mem_nil⟩⟩⟩
theorem inAX4 : ∀ w ∈ u_ws RX4 TX4 3, w ∈ AW := by
  show ∀ w ∈ ([Cond.laysFinal "TrainNote$Text" "TrainNote$Text" "bytes" "[I", Cond.laysFinal "TrainNote$Text" "TrainNote$Text" "room" "I", Cond.lays "TrainNote$Text" "TrainNote$Text" "size" "I"] : List Cond), w ∈ AW
  exact List.forall_mem_cons.mpr ⟨kw1_38, List.forall_mem_cons.mpr ⟨kw1_40, List.forall_mem_cons.mpr ⟨kw1_42, fun _ h => absurd h List.not_mem_nil⟩⟩⟩
theorem inAX5 : ∀ w ∈ u_ws RX5 TX5 4, w ∈ AW := by
  show ∀ w ∈ ([Cond.lays "TrainNote$Train" "TrainNote$Train" "speed" "I", Cond.lays "TrainNote$Train" "TrainNote$Train" "early" "I", Cond.lays "TrainNote$Train" "TrainNote$Train" "wind" "I", Cond.lays "TrainNote$Train" "TrainNote$Train" "close" "I"] : List Cond), w ∈ AW
  exact List.forall_mem_cons.mpr ⟨kw1_123, List.forall_mem_cons.mpr ⟨kw1_125, List.forall_mem_cons.mpr ⟨kw1_127, List.forall_mem_cons.mpr ⟨kw1_129, fun _ h => absurd h List.not_mem_nil⟩⟩⟩⟩
theorem inAX6 : ∀ w ∈ u_ws RX6 TX6 12, w ∈ AW := by
  show ∀ w ∈ ([Cond.laysFinal "TrainNote" "TrainNote" "singersText" "LTrainNote$Text;", Cond.laysFinal "TrainNote" "TrainNote" "songText" "LTrainNote$Text;", Cond.laysFinal "TrainNote" "TrainNote" "choir" "LTrainNote$Choir;", Cond.laysFinal "TrainNote" "TrainNote" "moved" "LTrainNote$Choir;", Cond.laysFinal "TrainNote" "TrainNote" "song" "LTrainNote$Song;", Cond.laysFinal "TrainNote" "TrainNote" "train" "LTrainNote$Train;", Cond.laysFinal "TrainNote" "TrainNote" "otherTrain" "LTrainNote$Train;", Cond.laysFinal "TrainNote" "TrainNote" "memory" "LTrainNote$Memory;", Cond.laysFinal "TrainNote" "TrainNote" "sheets" "[LTrainNote$Sheet;", Cond.laysFinal "TrainNote" "TrainNote" "standing" "[I", Cond.laysFinal "TrainNote" "TrainNote" "fittingSpeeds" "[I", Cond.lays "TrainNote" "TrainNote" "latestFinding" "I"] : List Cond), w ∈ AW
  exact List.forall_mem_cons.mpr ⟨kw1_187, List.forall_mem_cons.mpr ⟨kw1_189, List.forall_mem_cons.mpr ⟨kw1_191, List.forall_mem_cons.mpr ⟨kw1_193, List.forall_mem_cons.mpr ⟨kw1_195, List.forall_mem_cons.mpr ⟨kw1_197, List.forall_mem_cons.mpr ⟨kw1_199, List.forall_mem_cons.mpr ⟨kw1_201, List.forall_mem_cons.mpr ⟨kw1_203, List.forall_mem_cons.mpr ⟨kw1_205, List.forall_mem_cons.mpr ⟨kw1_207, List.forall_mem_cons.mpr ⟨kw1_209, fun _ h => absurd h List.not_mem_nil⟩⟩⟩⟩⟩⟩⟩⟩⟩⟩⟩⟩
theorem inAX7 : ∀ w ∈ u_ws RX7 TX7 22, w ∈ AW := by
  show ∀ w ∈ ([Cond.laysFinal "TrainNoteModel" "TrainNoteModel" "forms" "[I", Cond.laysFinal "TrainNoteModel" "TrainNoteModel" "sizes" "[I", Cond.laysFinal "TrainNoteModel" "TrainNoteModel" "items" "[I", Cond.laysFinal "TrainNoteModel" "TrainNoteModel" "moved" "[I", Cond.lays "TrainNoteModel" "TrainNoteModel" "latest" "I", Cond.laysFinal "TrainNoteModel" "TrainNoteModel" "bytes" "[I", Cond.laysFinal "TrainNoteModel" "TrainNoteModel" "typed" "[I", Cond.lays "TrainNoteModel" "TrainNoteModel" "singers" "I", Cond.laysFinal "TrainNoteModel" "TrainNoteModel" "singer" "[I", Cond.lays "TrainNoteModel" "TrainNoteModel" "bars" "I", Cond.laysFinal "TrainNoteModel" "TrainNoteModel" "bar" "[I", Cond.laysFinal "TrainNoteModel" "TrainNoteModel" "train" "[I", Cond.laysFinal "TrainNoteModel" "TrainNoteModel" "places" "[I", Cond.laysFinal "TrainNoteModel" "TrainNoteModel" "near" "[I", Cond.laysFinal "TrainNoteModel" "TrainNoteModel" "by" "[I", Cond.laysFinal "TrainNoteModel" "TrainNoteModel" "first" "[I", Cond.laysFinal "TrainNoteModel" "TrainNoteModel" "row" "[I", Cond.laysFinal "TrainNoteModel" "TrainNoteModel" "bestRow" "[I", Cond.lays "TrainNoteModel" "TrainNoteModel" "sights" "I", Cond.laysFinal "TrainNoteModel" "TrainNoteModel" "sight" "[I", Cond.laysFinal "TrainNoteModel" "TrainNoteModel" "notes" "[I", Cond.lays "TrainNoteModel" "TrainNoteModel" "drawn" "I"] : List Cond), w ∈ AW
  exact List.forall_mem_cons.mpr ⟨kw3_157, List.forall_mem_cons.mpr ⟨kw3_159, List.forall_mem_cons.mpr ⟨kw3_161, List.forall_mem_cons.mpr ⟨kw3_163, List.forall_mem_cons.mpr ⟨kw3_165, List.forall_mem_cons.mpr ⟨kw3_167, List.forall_mem_cons.mpr ⟨kw3_169, List.forall_mem_cons.mpr ⟨kw3_171, List.forall_mem_cons.mpr ⟨kw3_173, List.forall_mem_cons.mpr ⟨kw3_175, List.forall_mem_cons.mpr ⟨kw3_177, List.forall_mem_cons.mpr ⟨kw3_179, List.forall_mem_cons.mpr ⟨kw3_181, List.forall_mem_cons.mpr ⟨kw3_183, List.forall_mem_cons.mpr ⟨kw3_185, List.forall_mem_cons.mpr ⟨kw3_187, List.forall_mem_cons.mpr ⟨kw3_189, List.forall_mem_cons.mpr ⟨kw3_191, List.forall_mem_cons.mpr ⟨kw3_193, List.forall_mem_cons.mpr ⟨kw3_195, List.forall_mem_cons.mpr ⟨kw3_197, List.forall_mem_cons.mpr ⟨kw3_199, fun _ h => absurd h List.not_mem_nil⟩⟩⟩⟩⟩⟩⟩⟩⟩⟩⟩⟩⟩⟩⟩⟩⟩⟩⟩⟩⟩⟩
