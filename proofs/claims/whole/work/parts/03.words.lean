def qt : List Cond := lw_tbl.filter goodWord
theorem qt_in {w : Cond} (h : w ∈ qt) : w ∈ lw_tbl := (List.mem_filter.mp h).1
theorem qt_good : GoodIn qt qt := fun w hw => ⟨hw, good_of_word (List.mem_filter.mp hw).2⟩
theorem qt_cons {ws : List Cond} {w : Cond} (h : w ∈ qt) (k : GoodIn qt ws) : GoodIn qt (w :: ws) := fun x hx => (List.mem_cons.mp hx).elim (fun e => by rw [e]; exact qt_good w h) (fun hx => k x hx)
theorem tn {w : Cond} (h : w ∈ lw_tbl) (g : goodWord w = true) : w ∈ qt := List.mem_filter.mpr ⟨h, g⟩
theorem tm1 {w : Cond} (h : w ∈ tables_1_1) : w ∈ lw_tbl := List.mem_append_right _ (List.mem_append_left _ h)
theorem tm2 {w : Cond} (h : w ∈ tables_1_2) : w ∈ lw_tbl := List.mem_append_right _ (List.mem_append_right _ (List.mem_append_left _ h))
theorem tm3 {w : Cond} (h : w ∈ tables_1_3) : w ∈ lw_tbl := List.mem_append_right _ (List.mem_append_right _ (List.mem_append_right _ (List.mem_append_left _ h)))
theorem tm4 {w : Cond} (h : w ∈ tables_1_4) : w ∈ lw_tbl := List.mem_append_right _ (List.mem_append_right _ (List.mem_append_right _ (List.mem_append_right _ (List.mem_append_left _ h))))
theorem tm5 {w : Cond} (h : w ∈ tables_1_5) : w ∈ lw_tbl := List.mem_append_right _ (List.mem_append_right _ (List.mem_append_right _ (List.mem_append_right _ (List.mem_append_right _ (List.mem_append_left _ h)))))
theorem tm6 {w : Cond} (h : w ∈ tables_1_6) : w ∈ lw_tbl := List.mem_append_right _ (List.mem_append_right _ (List.mem_append_right _ (List.mem_append_right _ (List.mem_append_right _ (List.mem_append_right _ h)))))
theorem tw_1_0 : Cond.initialized RL ∈ qt := tn (tm1 (List.mem_of_getElem? (i := 0) rfl)) rfl
theorem tw_1_1 : Cond.initialized RX9 ∈ qt := tn (tm1 (List.mem_of_getElem? (i := 1) rfl)) rfl
theorem tw_1_2 : Cond.initialized RX3 ∈ qt := tn (tm1 (List.mem_of_getElem? (i := 2) rfl)) rfl
theorem tw_1_3 : Cond.initialized RX5 ∈ qt := tn (tm1 (List.mem_of_getElem? (i := 3) rfl)) rfl
theorem tw_1_4 : Cond.initialized RX4 ∈ qt := tn (tm1 (List.mem_of_getElem? (i := 4) rfl)) rfl
theorem tw_1_5 : Cond.initialized RX1 ∈ qt := tn (tm1 (List.mem_of_getElem? (i := 5) rfl)) rfl
theorem tw_1_6 : Cond.initialized RX7 ∈ qt := tn (tm1 (List.mem_of_getElem? (i := 6) rfl)) rfl
theorem tw_1_7 : Cond.initialized RX8 ∈ qt := tn (tm1 (List.mem_of_getElem? (i := 7) rfl)) rfl
theorem tw_1_8 : Cond.initialized RX6 ∈ qt := tn (tm1 (List.mem_of_getElem? (i := 8) rfl)) rfl
theorem tw_1_9 : Cond.initialized RX2 ∈ qt := tn (tm1 (List.mem_of_getElem? (i := 9) rfl)) rfl
theorem tw_1_10 : Cond.initialized "java/lang/System" ∈ qt := tn (tm1 (List.mem_of_getElem? (i := 10) rfl)) rfl
theorem tw_1_11 : Cond.initialized RX10 ∈ qt := tn (tm1 (List.mem_of_getElem? (i := 11) rfl)) rfl
theorem tw_1_12 : Cond.initialized RJ9 ∈ qt := tn (tm1 (List.mem_of_getElem? (i := 12) rfl)) rfl
theorem tw_1_13 : Cond.initialized RX0 ∈ qt := tn (tm1 (List.mem_of_getElem? (i := 13) rfl)) rfl
theorem tw_1_14 : Cond.initialized RJxf58ca ∈ qt := tn (tm1 (List.mem_of_getElem? (i := 14) rfl)) rfl
theorem tw_1_15 : Cond.initialized RJxe99ae ∈ qt := tn (tm1 (List.mem_of_getElem? (i := 15) rfl)) rfl
theorem tw_1_16 : Cond.classLink RL 7 "PaintFrames" ∈ qt := tn (tm1 (List.mem_of_getElem? (i := 16) rfl)) rfl
theorem tw_1_17 : Cond.instantiable RX9 11 ∈ qt := tn (tm1 (List.mem_of_getElem? (i := 17) rfl)) rfl
theorem tw_1_18 : Cond.methodLink RL 9 yX9_init ∈ qt := tn (tm1 (List.mem_of_getElem? (i := 18) rfl)) rfl
theorem tw_1_19 : Cond.instanceMethod yX9_init ∈ qt := tn (tm1 (List.mem_of_getElem? (i := 19) rfl)) rfl
theorem tw_1_20 : Cond.code yX9_init prog_1_method_1_code 2 none ∈ qt := tn (tm1 (List.mem_of_getElem? (i := 20) rfl)) rfl
theorem tw_1_21 : Cond.methodLink RX9 3 (⟨"java/lang/Object", "<init>", "()V"⟩ : MethodName) ∈ qt := tn (tm1 (List.mem_of_getElem? (i := 21) rfl)) rfl
theorem tw_1_22 : Cond.instanceMethod (⟨"java/lang/Object", "<init>", "()V"⟩ : MethodName) ∈ qt := tn (tm1 (List.mem_of_getElem? (i := 22) rfl)) rfl
theorem tw_1_23 : Cond.code (⟨"java/lang/Object", "<init>", "()V"⟩ : MethodName) object_method_1_code 1 none ∈ qt := tn (tm1 (List.mem_of_getElem? (i := 23) rfl)) rfl
theorem tw_1_24 : Cond.classLink RX9 9 "PaintFrames$Frame" ∈ qt := tn (tm1 (List.mem_of_getElem? (i := 24) rfl)) rfl
theorem tw_1_25 : Cond.instantiable RX3 14 ∈ qt := tn (tm1 (List.mem_of_getElem? (i := 25) rfl)) rfl
theorem tw_1_26 : Cond.methodLink RX9 11 yX3_init ∈ qt := tn (tm1 (List.mem_of_getElem? (i := 26) rfl)) rfl
theorem tw_1_27 : Cond.instanceMethod yX3_init ∈ qt := tn (tm1 (List.mem_of_getElem? (i := 27) rfl)) rfl
theorem tw_1_28 : Cond.code yX3_init prog_5_method_1_code 1 none ∈ qt := tn (tm1 (List.mem_of_getElem? (i := 28) rfl)) rfl
theorem tw_1_29 : Cond.methodLink RX3 3 (⟨"java/lang/Object", "<init>", "()V"⟩ : MethodName) ∈ qt := tn (tm1 (List.mem_of_getElem? (i := 29) rfl)) rfl
theorem tw_1_30 : Cond.methodLink RX3 46 yX3_emptyRacks ∈ qt := tn (tm1 (List.mem_of_getElem? (i := 30) rfl)) rfl
theorem tw_1_31 : Cond.instanceMethod yX3_emptyRacks ∈ qt := tn (tm1 (List.mem_of_getElem? (i := 31) rfl)) rfl
theorem tw_1_32 : Cond.selects RX3 yX3_emptyRacks yX3_emptyRacks ∈ qt := tn (tm1 (List.mem_of_getElem? (i := 32) rfl)) rfl
theorem tw_1_33 : Cond.code yX3_emptyRacks prog_5_method_2_code 2 none ∈ qt := tn (tm1 (List.mem_of_getElem? (i := 33) rfl)) rfl
theorem tw_1_34 : Cond.fieldLink RX3 9 "PaintFrames$Frame" "places" "I" ∈ qt := tn (tm1 (List.mem_of_getElem? (i := 34) rfl)) rfl
theorem tw_1_35 : Cond.fieldLink RX9 69 "PaintFrames$Frame" "places" "I" ∈ qt := tn (tm1 (List.mem_of_getElem? (i := 35) rfl)) rfl
theorem tw_1_36 : Cond.fieldLink RX3 15 "PaintFrames$Frame" "kinds" "I" ∈ qt := tn (tm1 (List.mem_of_getElem? (i := 36) rfl)) rfl
theorem tw_1_37 : Cond.fieldLink RX9 86 "PaintFrames$Frame" "kinds" "I" ∈ qt := tn (tm1 (List.mem_of_getElem? (i := 37) rfl)) rfl
theorem tw_1_38 : Cond.fieldLink RX3 18 "PaintFrames$Frame" "weights" "[I" ∈ qt := tn (tm1 (List.mem_of_getElem? (i := 38) rfl)) rfl
theorem tw_1_39 : Cond.fieldLink RX9 89 "PaintFrames$Frame" "weights" "[I" ∈ qt := tn (tm1 (List.mem_of_getElem? (i := 39) rfl)) rfl
theorem tw_1_40 : Cond.fieldLink RX9 77 "PaintFrames$Frame" "howManyGenerators" "I" ∈ qt := tn (tm1 (List.mem_of_getElem? (i := 40) rfl)) rfl
theorem tw_1_41 : Cond.fieldLink RX3 74 "PaintFrames$Frame" "howManyGenerators" "I" ∈ qt := tn (tm1 (List.mem_of_getElem? (i := 41) rfl)) rfl
theorem tw_1_42 : Cond.fieldLink RX3 22 "PaintFrames$Frame" "generators" "[I" ∈ qt := tn (tm1 (List.mem_of_getElem? (i := 42) rfl)) rfl
theorem tw_1_43 : Cond.fieldLink RX9 103 "PaintFrames$Frame" "generators" "[I" ∈ qt := tn (tm1 (List.mem_of_getElem? (i := 43) rfl)) rfl
theorem tw_1_44 : Cond.fieldLink RX3 25 "PaintFrames$Frame" "racks" "[I" ∈ qt := tn (tm1 (List.mem_of_getElem? (i := 44) rfl)) rfl
theorem tw_1_45 : Cond.fieldLink RX9 136 "PaintFrames$Frame" "racks" "[I" ∈ qt := tn (tm1 (List.mem_of_getElem? (i := 45) rfl)) rfl
theorem tw_1_46 : Cond.fieldLink RX3 58 "PaintFrames$Frame" "howManySeen" "I" ∈ qt := tn (tm1 (List.mem_of_getElem? (i := 46) rfl)) rfl
theorem tw_1_47 : Cond.fieldLink RX9 260 "PaintFrames$Frame" "howManySeen" "I" ∈ qt := tn (tm1 (List.mem_of_getElem? (i := 47) rfl)) rfl
theorem tw_1_48 : Cond.fieldLink RX3 28 "PaintFrames$Frame" "seenFirst" "[I" ∈ qt := tn (tm1 (List.mem_of_getElem? (i := 48) rfl)) rfl
theorem tw_1_49 : Cond.fieldLink RX9 355 "PaintFrames$Frame" "seenFirst" "[I" ∈ qt := tn (tm1 (List.mem_of_getElem? (i := 49) rfl)) rfl
theorem tw_1_50 : Cond.fieldLink RX3 31 "PaintFrames$Frame" "seenSecond" "[I" ∈ qt := tn (tm1 (List.mem_of_getElem? (i := 50) rfl)) rfl
theorem tw_1_51 : Cond.fieldLink RX9 358 "PaintFrames$Frame" "seenSecond" "[I" ∈ qt := tn (tm1 (List.mem_of_getElem? (i := 51) rfl)) rfl
theorem tw_1_52 : Cond.fieldLink RX3 34 "PaintFrames$Frame" "seenIs" "[I" ∈ qt := tn (tm1 (List.mem_of_getElem? (i := 52) rfl)) rfl
theorem tw_1_53 : Cond.fieldLink RX9 361 "PaintFrames$Frame" "seenIs" "[I" ∈ qt := tn (tm1 (List.mem_of_getElem? (i := 53) rfl)) rfl
theorem tw_1_54 : Cond.fieldLink RX3 37 "PaintFrames$Frame" "seenPlaces" "[I" ∈ qt := tn (tm1 (List.mem_of_getElem? (i := 54) rfl)) rfl
theorem tw_1_55 : Cond.fieldLink RX3 65 "PaintFrames$Frame" "howManyEvents" "I" ∈ qt := tn (tm1 (List.mem_of_getElem? (i := 55) rfl)) rfl
theorem tw_1_56 : Cond.fieldLink RX9 273 "PaintFrames$Frame" "howManyEvents" "I" ∈ qt := tn (tm1 (List.mem_of_getElem? (i := 56) rfl)) rfl
theorem tw_1_57 : Cond.fieldLink RX3 40 "PaintFrames$Frame" "eventWhat" "[I" ∈ qt := tn (tm1 (List.mem_of_getElem? (i := 57) rfl)) rfl
theorem tw_1_58 : Cond.fieldLink RX9 279 "PaintFrames$Frame" "eventWhat" "[I" ∈ qt := tn (tm1 (List.mem_of_getElem? (i := 58) rfl)) rfl
theorem tw_1_59 : Cond.fieldLink RX3 43 "PaintFrames$Frame" "eventNumber" "[I" ∈ qt := tn (tm1 (List.mem_of_getElem? (i := 59) rfl)) rfl
theorem tw_1_60 : Cond.fieldLink RX9 282 "PaintFrames$Frame" "eventNumber" "[I" ∈ qt := tn (tm1 (List.mem_of_getElem? (i := 60) rfl)) rfl
theorem tw_1_61 : Cond.lays RX3 "PaintFrames$Frame" "places" "I" ∈ qt := tn (tm1 (List.mem_of_getElem? (i := 61) rfl)) rfl
theorem tw_1_63 : Cond.lays RX3 "PaintFrames$Frame" "kinds" "I" ∈ qt := tn (tm1 (List.mem_of_getElem? (i := 63) rfl)) rfl
theorem tw_1_65 : Cond.laysFinal RX3 "PaintFrames$Frame" "weights" "[I" ∈ qt := tn (tm1 (List.mem_of_getElem? (i := 65) rfl)) rfl
theorem tw_1_67 : Cond.lays RX3 "PaintFrames$Frame" "howManyGenerators" "I" ∈ qt := tn (tm1 (List.mem_of_getElem? (i := 67) rfl)) rfl
theorem tw_1_69 : Cond.laysFinal RX3 "PaintFrames$Frame" "generators" "[I" ∈ qt := tn (tm1 (List.mem_of_getElem? (i := 69) rfl)) rfl
theorem tw_1_71 : Cond.laysFinal RX3 "PaintFrames$Frame" "racks" "[I" ∈ qt := tn (tm1 (List.mem_of_getElem? (i := 71) rfl)) rfl
theorem tw_1_73 : Cond.lays RX3 "PaintFrames$Frame" "howManySeen" "I" ∈ qt := tn (tm1 (List.mem_of_getElem? (i := 73) rfl)) rfl
theorem tw_1_75 : Cond.laysFinal RX3 "PaintFrames$Frame" "seenFirst" "[I" ∈ qt := tn (tm1 (List.mem_of_getElem? (i := 75) rfl)) rfl
theorem tw_1_77 : Cond.laysFinal RX3 "PaintFrames$Frame" "seenSecond" "[I" ∈ qt := tn (tm1 (List.mem_of_getElem? (i := 77) rfl)) rfl
theorem tw_1_79 : Cond.laysFinal RX3 "PaintFrames$Frame" "seenIs" "[I" ∈ qt := tn (tm1 (List.mem_of_getElem? (i := 79) rfl)) rfl
theorem tw_1_81 : Cond.laysFinal RX3 "PaintFrames$Frame" "seenPlaces" "[I" ∈ qt := tn (tm1 (List.mem_of_getElem? (i := 81) rfl)) rfl
theorem tw_1_83 : Cond.lays RX3 "PaintFrames$Frame" "howManyEvents" "I" ∈ qt := tn (tm1 (List.mem_of_getElem? (i := 83) rfl)) rfl
theorem tw_1_85 : Cond.laysFinal RX3 "PaintFrames$Frame" "eventWhat" "[I" ∈ qt := tn (tm1 (List.mem_of_getElem? (i := 85) rfl)) rfl
theorem tw_1_87 : Cond.laysFinal RX3 "PaintFrames$Frame" "eventNumber" "[I" ∈ qt := tn (tm1 (List.mem_of_getElem? (i := 87) rfl)) rfl
theorem tw_1_90 : Cond.arrayClass .int ∈ qt := tn (tm1 (List.mem_of_getElem? (i := 90) rfl)) rfl
theorem tw_1_91 : Cond.classLink RX9 21 "PaintFrames$Moves" ∈ qt := tn (tm1 (List.mem_of_getElem? (i := 91) rfl)) rfl
theorem tw_1_92 : Cond.instantiable RX5 5 ∈ qt := tn (tm1 (List.mem_of_getElem? (i := 92) rfl)) rfl
theorem tw_1_93 : Cond.methodLinkNest RX9 23 yX5_init "PaintFrames" ∈ lw_tbl := tm1 (List.mem_of_getElem? (i := 93) rfl)
theorem tw_1_94 : Cond.instanceMethod yX5_init ∈ qt := tn (tm1 (List.mem_of_getElem? (i := 94) rfl)) rfl
theorem tw_1_95 : Cond.code yX5_init prog_7_method_1_code 1 none ∈ qt := tn (tm1 (List.mem_of_getElem? (i := 95) rfl)) rfl
theorem tw_1_96 : Cond.methodLink RX5 3 (⟨"java/lang/Object", "<init>", "()V"⟩ : MethodName) ∈ qt := tn (tm1 (List.mem_of_getElem? (i := 96) rfl)) rfl
theorem tw_1_97 : Cond.fieldLink RX5 9 "PaintFrames$Moves" "keys" "[I" ∈ qt := tn (tm1 (List.mem_of_getElem? (i := 97) rfl)) rfl
theorem tw_1_98 : Cond.fieldLink RX4 34 "PaintFrames$Moves" "keys" "[I" ∈ qt := tn (tm1 (List.mem_of_getElem? (i := 98) rfl)) rfl
theorem tw_1_99 : Cond.fieldLink RX9 145 "PaintFrames$Moves" "keys" "[I" ∈ qt := tn (tm1 (List.mem_of_getElem? (i := 99) rfl)) rfl
theorem tw_1_100 : Cond.fieldLink RX5 15 "PaintFrames$Moves" "asFound" "[I" ∈ qt := tn (tm1 (List.mem_of_getElem? (i := 100) rfl)) rfl
theorem tw_1_101 : Cond.fieldLink RX4 31 "PaintFrames$Moves" "found" "I" ∈ qt := tn (tm1 (List.mem_of_getElem? (i := 101) rfl)) rfl
theorem tw_1_102 : Cond.fieldLink RX5 28 "PaintFrames$Moves" "found" "I" ∈ qt := tn (tm1 (List.mem_of_getElem? (i := 102) rfl)) rfl
theorem tw_1_103 : Cond.fieldLink RX9 142 "PaintFrames$Moves" "found" "I" ∈ qt := tn (tm1 (List.mem_of_getElem? (i := 103) rfl)) rfl
theorem tw_1_104 : Cond.fieldLink RX5 31 "PaintFrames$Moves" "turns" "I" ∈ qt := tn (tm1 (List.mem_of_getElem? (i := 104) rfl)) rfl
theorem tw_1_105 : Cond.fieldLink RX9 148 "PaintFrames$Moves" "turns" "I" ∈ qt := tn (tm1 (List.mem_of_getElem? (i := 105) rfl)) rfl
theorem tw_1_106 : Cond.fieldLink RX4 37 "PaintFrames$Moves" "places" "I" ∈ qt := tn (tm1 (List.mem_of_getElem? (i := 106) rfl)) rfl
theorem tw_1_107 : Cond.fieldLink RX1 23 "PaintFrames$Moves" "places" "I" ∈ qt := tn (tm1 (List.mem_of_getElem? (i := 107) rfl)) rfl
theorem tw_1_108 : Cond.fieldLink RX5 24 "PaintFrames$Moves" "places" "I" ∈ qt := tn (tm1 (List.mem_of_getElem? (i := 108) rfl)) rfl
theorem tw_1_109 : Cond.laysFinal RX5 "PaintFrames$Moves" "keys" "[I" ∈ qt := tn (tm1 (List.mem_of_getElem? (i := 109) rfl)) rfl
theorem tw_1_111 : Cond.laysFinal RX5 "PaintFrames$Moves" "asFound" "[I" ∈ qt := tn (tm1 (List.mem_of_getElem? (i := 111) rfl)) rfl
theorem tw_1_113 : Cond.lays RX5 "PaintFrames$Moves" "found" "I" ∈ qt := tn (tm1 (List.mem_of_getElem? (i := 113) rfl)) rfl
theorem tw_1_115 : Cond.lays RX5 "PaintFrames$Moves" "turns" "I" ∈ qt := tn (tm1 (List.mem_of_getElem? (i := 115) rfl)) rfl
theorem tw_1_117 : Cond.lays RX5 "PaintFrames$Moves" "places" "I" ∈ qt := tn (tm1 (List.mem_of_getElem? (i := 117) rfl)) rfl
theorem tw_1_120 : Cond.classLink RX9 31 "PaintFrames$Index" ∈ qt := tn (tm1 (List.mem_of_getElem? (i := 120) rfl)) rfl
theorem tw_1_121 : Cond.instantiable RX4 4 ∈ qt := tn (tm1 (List.mem_of_getElem? (i := 121) rfl)) rfl
theorem tw_1_122 : Cond.methodLinkNest RX9 33 yX4_init "PaintFrames" ∈ lw_tbl := tm1 (List.mem_of_getElem? (i := 122) rfl)
theorem tw_1_123 : Cond.instanceMethod yX4_init ∈ qt := tn (tm1 (List.mem_of_getElem? (i := 123) rfl)) rfl
theorem tw_1_124 : Cond.code yX4_init prog_6_method_1_code 1 none ∈ qt := tn (tm1 (List.mem_of_getElem? (i := 124) rfl)) rfl
theorem tw_1_125 : Cond.methodLink RX4 3 (⟨"java/lang/Object", "<init>", "()V"⟩ : MethodName) ∈ qt := tn (tm1 (List.mem_of_getElem? (i := 125) rfl)) rfl
theorem tw_1_126 : Cond.fieldLink RX4 9 "PaintFrames$Index" "sort" "[I" ∈ qt := tn (tm1 (List.mem_of_getElem? (i := 126) rfl)) rfl
theorem tw_1_127 : Cond.fieldLink RX9 165 "PaintFrames$Index" "sort" "[I" ∈ qt := tn (tm1 (List.mem_of_getElem? (i := 127) rfl)) rfl
theorem tw_1_128 : Cond.fieldLink RX4 15 "PaintFrames$Index" "howOften" "[I" ∈ qt := tn (tm1 (List.mem_of_getElem? (i := 128) rfl)) rfl
theorem tw_1_129 : Cond.fieldLink RX9 168 "PaintFrames$Index" "howOften" "[I" ∈ qt := tn (tm1 (List.mem_of_getElem? (i := 129) rfl)) rfl
theorem tw_1_130 : Cond.fieldLink RX4 18 "PaintFrames$Index" "sorts" "I" ∈ qt := tn (tm1 (List.mem_of_getElem? (i := 130) rfl)) rfl
theorem tw_1_131 : Cond.fieldLink RX9 162 "PaintFrames$Index" "sorts" "I" ∈ qt := tn (tm1 (List.mem_of_getElem? (i := 131) rfl)) rfl
theorem tw_1_132 : Cond.fieldLink RX4 28 "PaintFrames$Index" "moves" "I" ∈ qt := tn (tm1 (List.mem_of_getElem? (i := 132) rfl)) rfl
theorem tw_1_133 : Cond.fieldLink RX9 173 "PaintFrames$Index" "moves" "I" ∈ qt := tn (tm1 (List.mem_of_getElem? (i := 133) rfl)) rfl
theorem tw_1_134 : Cond.laysFinal RX4 "PaintFrames$Index" "sort" "[I" ∈ qt := tn (tm1 (List.mem_of_getElem? (i := 134) rfl)) rfl
theorem tw_1_136 : Cond.laysFinal RX4 "PaintFrames$Index" "howOften" "[I" ∈ qt := tn (tm1 (List.mem_of_getElem? (i := 136) rfl)) rfl
theorem tw_1_138 : Cond.lays RX4 "PaintFrames$Index" "sorts" "I" ∈ qt := tn (tm1 (List.mem_of_getElem? (i := 138) rfl)) rfl
theorem tw_1_140 : Cond.lays RX4 "PaintFrames$Index" "moves" "I" ∈ qt := tn (tm1 (List.mem_of_getElem? (i := 140) rfl)) rfl
theorem tw_1_143 : Cond.classLink RX9 38 "PaintFrames$Classes" ∈ qt := tn (tm1 (List.mem_of_getElem? (i := 143) rfl)) rfl
theorem tw_1_144 : Cond.instantiable RX1 3 ∈ qt := tn (tm1 (List.mem_of_getElem? (i := 144) rfl)) rfl
theorem tw_1_145 : Cond.methodLinkNest RX9 40 yX1_init "PaintFrames" ∈ lw_tbl := tm1 (List.mem_of_getElem? (i := 145) rfl)
theorem tw_1_146 : Cond.instanceMethod yX1_init ∈ qt := tn (tm1 (List.mem_of_getElem? (i := 146) rfl)) rfl
theorem tw_1_147 : Cond.code yX1_init prog_3_method_1_code 1 none ∈ qt := tn (tm1 (List.mem_of_getElem? (i := 147) rfl)) rfl
theorem tw_1_148 : Cond.methodLink RX1 1 (⟨"java/lang/Object", "<init>", "()V"⟩ : MethodName) ∈ qt := tn (tm1 (List.mem_of_getElem? (i := 148) rfl)) rfl
theorem tw_1_149 : Cond.fieldLink RX1 7 "PaintFrames$Classes" "leasts" "[I" ∈ qt := tn (tm1 (List.mem_of_getElem? (i := 149) rfl)) rfl
theorem tw_1_150 : Cond.fieldLink RX9 202 "PaintFrames$Classes" "leasts" "[I" ∈ qt := tn (tm1 (List.mem_of_getElem? (i := 150) rfl)) rfl
theorem tw_1_151 : Cond.fieldLink RX1 13 "PaintFrames$Classes" "howMany" "I" ∈ qt := tn (tm1 (List.mem_of_getElem? (i := 151) rfl)) rfl
theorem tw_1_152 : Cond.fieldLink RX9 199 "PaintFrames$Classes" "howMany" "I" ∈ qt := tn (tm1 (List.mem_of_getElem? (i := 152) rfl)) rfl
theorem tw_1_153 : Cond.fieldLink RX1 32 "PaintFrames$Classes" "known" "Z" ∈ qt := tn (tm1 (List.mem_of_getElem? (i := 153) rfl)) rfl
theorem tw_1_154 : Cond.fieldLink RX9 329 "PaintFrames$Classes" "known" "Z" ∈ qt := tn (tm1 (List.mem_of_getElem? (i := 154) rfl)) rfl
theorem tw_1_155 : Cond.lays RX1 "PaintFrames$Classes" "leasts" "[I" ∈ qt := tn (tm1 (List.mem_of_getElem? (i := 155) rfl)) rfl
theorem tw_1_157 : Cond.lays RX1 "PaintFrames$Classes" "howMany" "I" ∈ qt := tn (tm1 (List.mem_of_getElem? (i := 157) rfl)) rfl
theorem tw_1_159 : Cond.lays RX1 "PaintFrames$Classes" "known" "Z" ∈ qt := tn (tm1 (List.mem_of_getElem? (i := 159) rfl)) rfl
theorem tw_1_162 : Cond.classLink RX9 48 "PaintFrames$Text" ∈ qt := tn (tm1 (List.mem_of_getElem? (i := 162) rfl)) rfl
theorem tw_1_163 : Cond.instantiable RX7 5 ∈ qt := tn (tm1 (List.mem_of_getElem? (i := 163) rfl)) rfl
theorem tw_1_164 : Cond.methodLinkNest RX9 50 yX7_init "PaintFrames" ∈ lw_tbl := tm1 (List.mem_of_getElem? (i := 164) rfl)
theorem tw_1_165 : Cond.instanceMethod yX7_init ∈ qt := tn (tm1 (List.mem_of_getElem? (i := 165) rfl)) rfl
theorem tw_1_166 : Cond.code yX7_init prog_9_method_1_code 1 none ∈ qt := tn (tm1 (List.mem_of_getElem? (i := 166) rfl)) rfl
theorem tw_1_167 : Cond.methodLink RX7 3 (⟨"java/lang/Object", "<init>", "()V"⟩ : MethodName) ∈ qt := tn (tm1 (List.mem_of_getElem? (i := 167) rfl)) rfl
theorem tw_1_168 : Cond.fieldLink RX7 9 "PaintFrames$Text" "signs" "[I" ∈ qt := tn (tm1 (List.mem_of_getElem? (i := 168) rfl)) rfl
theorem tw_1_169 : Cond.fieldLink RX7 21 "PaintFrames$Text" "length" "I" ∈ qt := tn (tm1 (List.mem_of_getElem? (i := 169) rfl)) rfl
theorem tw_1_170 : Cond.fieldLink RX9 232 "PaintFrames$Text" "length" "I" ∈ qt := tn (tm1 (List.mem_of_getElem? (i := 170) rfl)) rfl
theorem tw_1_171 : Cond.fieldLink RX7 29 "PaintFrames$Text" "whole" "I" ∈ qt := tn (tm1 (List.mem_of_getElem? (i := 171) rfl)) rfl
theorem tw_1_172 : Cond.fieldLink RX9 242 "PaintFrames$Text" "whole" "I" ∈ qt := tn (tm1 (List.mem_of_getElem? (i := 172) rfl)) rfl
theorem tw_1_173 : Cond.fieldLink RX7 15 "PaintFrames$Text" "begins" "[I" ∈ qt := tn (tm1 (List.mem_of_getElem? (i := 173) rfl)) rfl
theorem tw_1_174 : Cond.fieldLink RX7 18 "PaintFrames$Text" "ends" "[I" ∈ qt := tn (tm1 (List.mem_of_getElem? (i := 174) rfl)) rfl
theorem tw_1_175 : Cond.laysFinal RX7 "PaintFrames$Text" "signs" "[I" ∈ qt := tn (tm1 (List.mem_of_getElem? (i := 175) rfl)) rfl
theorem tw_1_177 : Cond.lays RX7 "PaintFrames$Text" "length" "I" ∈ qt := tn (tm1 (List.mem_of_getElem? (i := 177) rfl)) rfl
theorem tw_1_179 : Cond.lays RX7 "PaintFrames$Text" "whole" "I" ∈ qt := tn (tm1 (List.mem_of_getElem? (i := 179) rfl)) rfl
theorem tw_1_181 : Cond.laysFinal RX7 "PaintFrames$Text" "begins" "[I" ∈ qt := tn (tm1 (List.mem_of_getElem? (i := 181) rfl)) rfl
theorem tw_1_183 : Cond.laysFinal RX7 "PaintFrames$Text" "ends" "[I" ∈ qt := tn (tm1 (List.mem_of_getElem? (i := 183) rfl)) rfl
theorem tw_1_186 : Cond.classLink RX9 55 "PaintFrames$Trouble" ∈ qt := tn (tm1 (List.mem_of_getElem? (i := 186) rfl)) rfl
theorem tw_1_187 : Cond.instantiable RX8 3 ∈ qt := tn (tm1 (List.mem_of_getElem? (i := 187) rfl)) rfl
theorem tw_1_188 : Cond.methodLinkNest RX9 57 yX8_init "PaintFrames" ∈ lw_tbl := tm1 (List.mem_of_getElem? (i := 188) rfl)
theorem tw_1_189 : Cond.instanceMethod yX8_init ∈ qt := tn (tm1 (List.mem_of_getElem? (i := 189) rfl)) rfl
theorem tw_1_190 : Cond.code yX8_init prog_10_method_1_code 1 none ∈ qt := tn (tm1 (List.mem_of_getElem? (i := 190) rfl)) rfl
theorem tw_1_191 : Cond.methodLink RX8 1 (⟨"java/lang/Object", "<init>", "()V"⟩ : MethodName) ∈ qt := tn (tm1 (List.mem_of_getElem? (i := 191) rfl)) rfl
theorem tw_1_192 : Cond.fieldLink RX8 7 "PaintFrames$Trouble" "sorts" "[I" ∈ qt := tn (tm1 (List.mem_of_getElem? (i := 192) rfl)) rfl
theorem tw_1_193 : Cond.fieldLink RX9 255 "PaintFrames$Trouble" "sorts" "[I" ∈ qt := tn (tm1 (List.mem_of_getElem? (i := 193) rfl)) rfl
theorem tw_1_194 : Cond.fieldLink RX8 13 "PaintFrames$Trouble" "numbers" "[I" ∈ qt := tn (tm1 (List.mem_of_getElem? (i := 194) rfl)) rfl
theorem tw_1_195 : Cond.fieldLink RX9 257 "PaintFrames$Trouble" "numbers" "[I" ∈ qt := tn (tm1 (List.mem_of_getElem? (i := 195) rfl)) rfl
theorem tw_1_196 : Cond.fieldLink RX8 16 "PaintFrames$Trouble" "length" "I" ∈ qt := tn (tm1 (List.mem_of_getElem? (i := 196) rfl)) rfl
theorem tw_1_197 : Cond.fieldLink RX9 254 "PaintFrames$Trouble" "length" "I" ∈ qt := tn (tm1 (List.mem_of_getElem? (i := 197) rfl)) rfl
theorem tw_1_198 : Cond.laysFinal RX8 "PaintFrames$Trouble" "sorts" "[I" ∈ qt := tn (tm1 (List.mem_of_getElem? (i := 198) rfl)) rfl
theorem tw_1_200 : Cond.laysFinal RX8 "PaintFrames$Trouble" "numbers" "[I" ∈ qt := tn (tm1 (List.mem_of_getElem? (i := 200) rfl)) rfl
theorem tw_1_202 : Cond.lays RX8 "PaintFrames$Trouble" "length" "I" ∈ qt := tn (tm1 (List.mem_of_getElem? (i := 202) rfl)) rfl
theorem tw_1_205 : Cond.classLink RX9 62 "PaintFrames$Tape" ∈ qt := tn (tm1 (List.mem_of_getElem? (i := 205) rfl)) rfl
theorem tw_1_206 : Cond.arrayOver (.object "PaintFrames$Tape") ∈ lw_tbl := tm1 (List.mem_of_getElem? (i := 206) rfl)
theorem tw_1_207 : Cond.instantiable RX6 3 ∈ qt := tn (tm1 (List.mem_of_getElem? (i := 207) rfl)) rfl
theorem tw_1_208 : Cond.methodLinkNest RX9 68 yX6_init "PaintFrames" ∈ lw_tbl := tm1 (List.mem_of_getElem? (i := 208) rfl)
theorem tw_1_209 : Cond.instanceMethod yX6_init ∈ qt := tn (tm1 (List.mem_of_getElem? (i := 209) rfl)) rfl
theorem tw_1_210 : Cond.code yX6_init prog_8_method_1_code 1 none ∈ qt := tn (tm1 (List.mem_of_getElem? (i := 210) rfl)) rfl
theorem tw_1_211 : Cond.methodLink RX6 3 (⟨"java/lang/Object", "<init>", "()V"⟩ : MethodName) ∈ qt := tn (tm1 (List.mem_of_getElem? (i := 211) rfl)) rfl
theorem tw_1_212 : Cond.fieldLink RX6 11 "PaintFrames$Tape" "sort" "I" ∈ qt := tn (tm1 (List.mem_of_getElem? (i := 212) rfl)) rfl
theorem tw_1_213 : Cond.fieldLink RX9 291 "PaintFrames$Tape" "sort" "I" ∈ qt := tn (tm1 (List.mem_of_getElem? (i := 213) rfl)) rfl
theorem tw_1_214 : Cond.fieldLink RX6 19 "PaintFrames$Tape" "length" "I" ∈ qt := tn (tm1 (List.mem_of_getElem? (i := 214) rfl)) rfl
theorem tw_1_215 : Cond.fieldLink RX9 293 "PaintFrames$Tape" "length" "I" ∈ qt := tn (tm1 (List.mem_of_getElem? (i := 215) rfl)) rfl
theorem tw_1_216 : Cond.fieldLink RX6 15 "PaintFrames$Tape" "items" "[J" ∈ qt := tn (tm1 (List.mem_of_getElem? (i := 216) rfl)) rfl
theorem tw_1_217 : Cond.fieldLink RX9 294 "PaintFrames$Tape" "items" "[J" ∈ qt := tn (tm1 (List.mem_of_getElem? (i := 217) rfl)) rfl
theorem tw_1_218 : Cond.lays RX6 "PaintFrames$Tape" "sort" "I" ∈ qt := tn (tm1 (List.mem_of_getElem? (i := 218) rfl)) rfl
theorem tw_1_220 : Cond.lays RX6 "PaintFrames$Tape" "length" "I" ∈ qt := tn (tm1 (List.mem_of_getElem? (i := 220) rfl)) rfl
theorem tw_1_222 : Cond.laysFinal RX6 "PaintFrames$Tape" "items" "[J" ∈ qt := tn (tm1 (List.mem_of_getElem? (i := 222) rfl)) rfl
theorem tw_1_225 : Cond.arrayClass .long ∈ qt := tn (tm1 (List.mem_of_getElem? (i := 225) rfl)) rfl
theorem tw_1_226 : Cond.methodLink RX9 73 yX5_begin ∈ qt := tn (tm1 (List.mem_of_getElem? (i := 226) rfl)) rfl
theorem tw_1_227 : Cond.instanceMethod yX5_begin ∈ qt := tn (tm1 (List.mem_of_getElem? (i := 227) rfl)) rfl
theorem tw_1_228 : Cond.selects RX5 yX5_begin yX5_begin ∈ qt := tn (tm1 (List.mem_of_getElem? (i := 228) rfl)) rfl
theorem tw_1_229 : Cond.code yX5_begin prog_7_method_3_code 2 none ∈ qt := tn (tm1 (List.mem_of_getElem? (i := 229) rfl)) rfl
theorem tw_1_230 : Cond.methodLink RX5 34 yX2_unmoved ∈ qt := tn (tm1 (List.mem_of_getElem? (i := 230) rfl)) rfl
theorem tw_1_231 : Cond.static yX2_unmoved ∈ qt := tn (tm1 (List.mem_of_getElem? (i := 231) rfl)) rfl
theorem tw_1_232 : Cond.code yX2_unmoved prog_4_method_7_code 3 (some .int) ∈ qt := tn (tm1 (List.mem_of_getElem? (i := 232) rfl)) rfl
theorem tw_1_233 : Cond.methodLink RX2 11 yX2_put ∈ qt := tn (tm1 (List.mem_of_getElem? (i := 233) rfl)) rfl
theorem tw_1_234 : Cond.static yX2_put ∈ qt := tn (tm1 (List.mem_of_getElem? (i := 234) rfl)) rfl
theorem tw_1_235 : Cond.code yX2_put prog_4_method_3_code 2 (some .int) ∈ qt := tn (tm1 (List.mem_of_getElem? (i := 235) rfl)) rfl
theorem tw_1_236 : Cond.methodLink RX5 38 yX5_admit ∈ qt := tn (tm1 (List.mem_of_getElem? (i := 236) rfl)) rfl
theorem tw_1_238 : Cond.instanceMethod yX5_admit ∈ qt := tn (tm1 (List.mem_of_getElem? (i := 238) rfl)) rfl
theorem tw_1_239 : Cond.code yX5_admit prog_7_method_5_code 3 (some .boolean) ∈ qt := tn (tm1 (List.mem_of_getElem? (i := 239) rfl)) rfl
theorem tw_2_0 : Cond.methodLink RX5 49 yX5_placeOf ∈ qt := tn (tm2 (List.mem_of_getElem? (i := 0) rfl)) rfl
theorem tw_2_2 : Cond.instanceMethod yX5_placeOf ∈ qt := tn (tm2 (List.mem_of_getElem? (i := 2) rfl)) rfl
theorem tw_2_3 : Cond.code yX5_placeOf prog_7_method_6_code 6 (some .int) ∈ qt := tn (tm2 (List.mem_of_getElem? (i := 3) rfl)) rfl
theorem tw_2_4 : Cond.methodLink RX5 52 (⟨"java/lang/System", "arraycopy", "(Ljava/lang/Object;ILjava/lang/Object;II)V"⟩ : MethodName) ∈ qt := tn (tm2 (List.mem_of_getElem? (i := 4) rfl)) rfl
theorem tw_2_5 : Cond.static (⟨"java/lang/System", "arraycopy", "(Ljava/lang/Object;ILjava/lang/Object;II)V"⟩ : MethodName) ∈ qt := tn (tm2 (List.mem_of_getElem? (i := 5) rfl)) rfl
theorem tw_2_6 : Cond.native (⟨"java/lang/System", "arraycopy", "(Ljava/lang/Object;ILjava/lang/Object;II)V"⟩ : MethodName) ∈ qt := tn (tm2 (List.mem_of_getElem? (i := 6) rfl)) rfl
theorem tw_2_7 : Cond.fieldLink RX9 12 "PaintFrames" "frame" "LPaintFrames$Frame;" ∈ qt := tn (tm2 (List.mem_of_getElem? (i := 7) rfl)) rfl
theorem tw_2_8 : Cond.fieldLink RX9 18 "PaintFrames" "taken" "LPaintFrames$Frame;" ∈ qt := tn (tm2 (List.mem_of_getElem? (i := 8) rfl)) rfl
theorem tw_2_9 : Cond.fieldLink RX9 302 "PaintFrames" "hasImage" "Z" ∈ qt := tn (tm2 (List.mem_of_getElem? (i := 9) rfl)) rfl
theorem tw_2_10 : Cond.fieldLink RX9 24 "PaintFrames" "moves" "LPaintFrames$Moves;" ∈ qt := tn (tm2 (List.mem_of_getElem? (i := 10) rfl)) rfl
theorem tw_2_11 : Cond.fieldLink RX9 28 "PaintFrames" "spare" "LPaintFrames$Moves;" ∈ qt := tn (tm2 (List.mem_of_getElem? (i := 11) rfl)) rfl
theorem tw_2_12 : Cond.fieldLink RX9 34 "PaintFrames" "types" "LPaintFrames$Index;" ∈ qt := tn (tm2 (List.mem_of_getElem? (i := 12) rfl)) rfl
theorem tw_2_13 : Cond.fieldLink RX9 41 "PaintFrames" "byTurns" "LPaintFrames$Classes;" ∈ qt := tn (tm2 (List.mem_of_getElem? (i := 13) rfl)) rfl
theorem tw_2_14 : Cond.fieldLink RX9 45 "PaintFrames" "byAll" "LPaintFrames$Classes;" ∈ qt := tn (tm2 (List.mem_of_getElem? (i := 14) rfl)) rfl
theorem tw_2_15 : Cond.fieldLink RX9 51 "PaintFrames" "text" "LPaintFrames$Text;" ∈ qt := tn (tm2 (List.mem_of_getElem? (i := 15) rfl)) rfl
theorem tw_2_16 : Cond.fieldLink RX9 58 "PaintFrames" "trouble" "LPaintFrames$Trouble;" ∈ qt := tn (tm2 (List.mem_of_getElem? (i := 16) rfl)) rfl
theorem tw_2_17 : Cond.fieldLink RX9 64 "PaintFrames" "tapes" "[LPaintFrames$Tape;" ∈ qt := tn (tm2 (List.mem_of_getElem? (i := 17) rfl)) rfl
theorem tw_2_18 : Cond.laysFinal RX9 "PaintFrames" "frame" "LPaintFrames$Frame;" ∈ qt := tn (tm2 (List.mem_of_getElem? (i := 18) rfl)) rfl
theorem tw_2_20 : Cond.laysFinal RX9 "PaintFrames" "taken" "LPaintFrames$Frame;" ∈ qt := tn (tm2 (List.mem_of_getElem? (i := 20) rfl)) rfl
theorem tw_2_22 : Cond.lays RX9 "PaintFrames" "hasImage" "Z" ∈ qt := tn (tm2 (List.mem_of_getElem? (i := 22) rfl)) rfl
theorem tw_2_24 : Cond.lays RX9 "PaintFrames" "moves" "LPaintFrames$Moves;" ∈ qt := tn (tm2 (List.mem_of_getElem? (i := 24) rfl)) rfl
theorem tw_2_26 : Cond.lays RX9 "PaintFrames" "spare" "LPaintFrames$Moves;" ∈ qt := tn (tm2 (List.mem_of_getElem? (i := 26) rfl)) rfl
theorem tw_2_28 : Cond.laysFinal RX9 "PaintFrames" "types" "LPaintFrames$Index;" ∈ qt := tn (tm2 (List.mem_of_getElem? (i := 28) rfl)) rfl
theorem tw_2_30 : Cond.laysFinal RX9 "PaintFrames" "byTurns" "LPaintFrames$Classes;" ∈ qt := tn (tm2 (List.mem_of_getElem? (i := 30) rfl)) rfl
theorem tw_2_32 : Cond.laysFinal RX9 "PaintFrames" "byAll" "LPaintFrames$Classes;" ∈ qt := tn (tm2 (List.mem_of_getElem? (i := 32) rfl)) rfl
theorem tw_2_34 : Cond.laysFinal RX9 "PaintFrames" "text" "LPaintFrames$Text;" ∈ qt := tn (tm2 (List.mem_of_getElem? (i := 34) rfl)) rfl
theorem tw_2_36 : Cond.laysFinal RX9 "PaintFrames" "trouble" "LPaintFrames$Trouble;" ∈ qt := tn (tm2 (List.mem_of_getElem? (i := 36) rfl)) rfl
theorem tw_2_38 : Cond.laysFinal RX9 "PaintFrames" "tapes" "[LPaintFrames$Tape;" ∈ qt := tn (tm2 (List.mem_of_getElem? (i := 38) rfl)) rfl
theorem tw_2_41 : Cond.methodLink RL 13 yX9_places ∈ qt := tn (tm2 (List.mem_of_getElem? (i := 41) rfl)) rfl
theorem tw_2_42 : Cond.instanceMethod yX9_places ∈ qt := tn (tm2 (List.mem_of_getElem? (i := 42) rfl)) rfl
theorem tw_2_43 : Cond.selects RX9 yX9_places yX9_places ∈ qt := tn (tm2 (List.mem_of_getElem? (i := 43) rfl)) rfl
theorem tw_2_44 : Cond.code yX9_places prog_1_method_2_code 3 (some .int) ∈ qt := tn (tm2 (List.mem_of_getElem? (i := 44) rfl)) rfl
theorem tw_2_45 : Cond.methodLink RX9 80 yX3_emptyRacks ∈ qt := tn (tm2 (List.mem_of_getElem? (i := 45) rfl)) rfl
theorem tw_2_46 : Cond.methodLink RX9 83 yX9_forgetClasses ∈ qt := tn (tm2 (List.mem_of_getElem? (i := 46) rfl)) rfl
theorem tw_2_48 : Cond.instanceMethod yX9_forgetClasses ∈ qt := tn (tm2 (List.mem_of_getElem? (i := 48) rfl)) rfl
theorem tw_2_49 : Cond.code yX9_forgetClasses prog_1_method_51_code 1 none ∈ qt := tn (tm2 (List.mem_of_getElem? (i := 49) rfl)) rfl
theorem tw_2_50 : Cond.methodLink RL 18 yX9_kinds ∈ qt := tn (tm2 (List.mem_of_getElem? (i := 50) rfl)) rfl
theorem tw_2_51 : Cond.instanceMethod yX9_kinds ∈ qt := tn (tm2 (List.mem_of_getElem? (i := 51) rfl)) rfl
theorem tw_2_52 : Cond.selects RX9 yX9_kinds yX9_kinds ∈ qt := tn (tm2 (List.mem_of_getElem? (i := 52) rfl)) rfl
theorem tw_2_53 : Cond.code yX9_kinds prog_1_method_3_code 3 (some .int) ∈ qt := tn (tm2 (List.mem_of_getElem? (i := 53) rfl)) rfl
theorem tw_2_54 : Cond.methodLink RL 22 yX9_weight ∈ qt := tn (tm2 (List.mem_of_getElem? (i := 54) rfl)) rfl
theorem tw_2_55 : Cond.instanceMethod yX9_weight ∈ qt := tn (tm2 (List.mem_of_getElem? (i := 55) rfl)) rfl
theorem tw_2_56 : Cond.selects RX9 yX9_weight yX9_weight ∈ qt := tn (tm2 (List.mem_of_getElem? (i := 56) rfl)) rfl
theorem tw_2_57 : Cond.code yX9_weight prog_1_method_4_code 4 (some .int) ∈ qt := tn (tm2 (List.mem_of_getElem? (i := 57) rfl)) rfl
theorem tw_2_58 : Cond.methodLink RL 27 yX9_generator ∈ qt := tn (tm2 (List.mem_of_getElem? (i := 58) rfl)) rfl
theorem tw_2_59 : Cond.instanceMethod yX9_generator ∈ qt := tn (tm2 (List.mem_of_getElem? (i := 59) rfl)) rfl
theorem tw_2_60 : Cond.selects RX9 yX9_generator yX9_generator ∈ qt := tn (tm2 (List.mem_of_getElem? (i := 60) rfl)) rfl
theorem tw_2_61 : Cond.code yX9_generator prog_1_method_5_code 6 (some .int) ∈ qt := tn (tm2 (List.mem_of_getElem? (i := 61) rfl)) rfl
theorem tw_2_62 : Cond.methodLink RX9 93 yX2_packedRow ∈ qt := tn (tm2 (List.mem_of_getElem? (i := 62) rfl)) rfl
theorem tw_2_63 : Cond.static yX2_packedRow ∈ qt := tn (tm2 (List.mem_of_getElem? (i := 63) rfl)) rfl
theorem tw_2_64 : Cond.code yX2_packedRow prog_4_method_5_code 5 (some .int) ∈ qt := tn (tm2 (List.mem_of_getElem? (i := 64) rfl)) rfl
theorem tw_2_65 : Cond.methodLink RX2 15 yX2_packed ∈ qt := tn (tm2 (List.mem_of_getElem? (i := 65) rfl)) rfl
theorem tw_2_66 : Cond.static yX2_packed ∈ qt := tn (tm2 (List.mem_of_getElem? (i := 66) rfl)) rfl
theorem tw_2_67 : Cond.code yX2_packed prog_4_method_4_code 8 (some .int) ∈ qt := tn (tm2 (List.mem_of_getElem? (i := 67) rfl)) rfl
theorem tw_2_68 : Cond.methodLink RX2 19 yX2_at ∈ qt := tn (tm2 (List.mem_of_getElem? (i := 68) rfl)) rfl
theorem tw_2_69 : Cond.static yX2_at ∈ qt := tn (tm2 (List.mem_of_getElem? (i := 69) rfl)) rfl
theorem tw_2_70 : Cond.code yX2_at prog_4_method_2_code 2 (some .int) ∈ qt := tn (tm2 (List.mem_of_getElem? (i := 70) rfl)) rfl
theorem tw_2_71 : Cond.methodLink RX9 99 yX9_isFlag ∈ qt := tn (tm2 (List.mem_of_getElem? (i := 71) rfl)) rfl
theorem tw_2_72 : Cond.static yX9_isFlag ∈ qt := tn (tm2 (List.mem_of_getElem? (i := 72) rfl)) rfl
theorem tw_2_73 : Cond.code yX9_isFlag prog_1_method_41_code 1 (some .boolean) ∈ qt := tn (tm2 (List.mem_of_getElem? (i := 73) rfl)) rfl
theorem tw_2_74 : Cond.methodLink RX9 106 yX9_lowestBits ∈ qt := tn (tm2 (List.mem_of_getElem? (i := 74) rfl)) rfl
theorem tw_2_75 : Cond.static yX9_lowestBits ∈ qt := tn (tm2 (List.mem_of_getElem? (i := 75) rfl)) rfl
theorem tw_2_76 : Cond.code yX9_lowestBits prog_1_method_45_code 1 (some .int) ∈ qt := tn (tm2 (List.mem_of_getElem? (i := 76) rfl)) rfl
theorem tw_2_77 : Cond.methodLink RX9 110 yX5_grow ∈ qt := tn (tm2 (List.mem_of_getElem? (i := 77) rfl)) rfl
theorem tw_2_78 : Cond.instanceMethod yX5_grow ∈ qt := tn (tm2 (List.mem_of_getElem? (i := 78) rfl)) rfl
theorem tw_2_79 : Cond.selects RX5 yX5_grow yX5_grow ∈ qt := tn (tm2 (List.mem_of_getElem? (i := 79) rfl)) rfl
theorem tw_2_80 : Cond.code yX5_grow prog_7_method_4_code 6 (some .boolean) ∈ qt := tn (tm2 (List.mem_of_getElem? (i := 80) rfl)) rfl
theorem tw_2_81 : Cond.methodLink RX5 42 yX5_begin ∈ qt := tn (tm2 (List.mem_of_getElem? (i := 81) rfl)) rfl
theorem tw_2_82 : Cond.methodLink RX5 46 yX5_behind ∈ qt := tn (tm2 (List.mem_of_getElem? (i := 82) rfl)) rfl
theorem tw_2_83 : Cond.static yX5_behind ∈ qt := tn (tm2 (List.mem_of_getElem? (i := 83) rfl)) rfl
theorem tw_2_84 : Cond.code yX5_behind prog_7_method_2_code 3 (some .int) ∈ qt := tn (tm2 (List.mem_of_getElem? (i := 84) rfl)) rfl
theorem tw_2_85 : Cond.methodLink RX5 18 yX2_moved ∈ qt := tn (tm2 (List.mem_of_getElem? (i := 85) rfl)) rfl
theorem tw_2_86 : Cond.static yX2_moved ∈ qt := tn (tm2 (List.mem_of_getElem? (i := 86) rfl)) rfl
theorem tw_2_87 : Cond.code yX2_moved prog_4_method_8_code 5 (some .int) ∈ qt := tn (tm2 (List.mem_of_getElem? (i := 87) rfl)) rfl
theorem tw_2_88 : Cond.methodLink RX9 114 yX8_begin ∈ qt := tn (tm2 (List.mem_of_getElem? (i := 88) rfl)) rfl
theorem tw_2_89 : Cond.instanceMethod yX8_begin ∈ qt := tn (tm2 (List.mem_of_getElem? (i := 89) rfl)) rfl
theorem tw_2_90 : Cond.selects RX8 yX8_begin yX8_begin ∈ qt := tn (tm2 (List.mem_of_getElem? (i := 90) rfl)) rfl
theorem tw_2_91 : Cond.code yX8_begin prog_10_method_2_code 3 none ∈ qt := tn (tm2 (List.mem_of_getElem? (i := 91) rfl)) rfl
theorem tw_2_92 : Cond.methodLink RX8 20 yX8_because ∈ qt := tn (tm2 (List.mem_of_getElem? (i := 92) rfl)) rfl
theorem tw_2_93 : Cond.instanceMethod yX8_because ∈ qt := tn (tm2 (List.mem_of_getElem? (i := 93) rfl)) rfl
theorem tw_2_94 : Cond.selects RX8 yX8_because yX8_because ∈ qt := tn (tm2 (List.mem_of_getElem? (i := 94) rfl)) rfl
theorem tw_2_95 : Cond.code yX8_because prog_10_method_3_code 3 none ∈ qt := tn (tm2 (List.mem_of_getElem? (i := 95) rfl)) rfl
theorem tw_2_96 : Cond.methodLink RX9 117 yX8_because ∈ qt := tn (tm2 (List.mem_of_getElem? (i := 96) rfl)) rfl
theorem tw_2_97 : Cond.methodLink RL 31 yX9_drop ∈ qt := tn (tm2 (List.mem_of_getElem? (i := 97) rfl)) rfl
theorem tw_2_98 : Cond.instanceMethod yX9_drop ∈ qt := tn (tm2 (List.mem_of_getElem? (i := 98) rfl)) rfl
theorem tw_2_99 : Cond.selects RX9 yX9_drop yX9_drop ∈ qt := tn (tm2 (List.mem_of_getElem? (i := 99) rfl)) rfl
theorem tw_2_100 : Cond.code yX9_drop prog_1_method_6_code 2 (some .int) ∈ qt := tn (tm2 (List.mem_of_getElem? (i := 100) rfl)) rfl
theorem tw_2_101 : Cond.methodLink RX9 120 yX3_takeFromRacks ∈ qt := tn (tm2 (List.mem_of_getElem? (i := 101) rfl)) rfl
theorem tw_2_102 : Cond.instanceMethod yX3_takeFromRacks ∈ qt := tn (tm2 (List.mem_of_getElem? (i := 102) rfl)) rfl
theorem tw_2_103 : Cond.selects RX3 yX3_takeFromRacks yX3_takeFromRacks ∈ qt := tn (tm2 (List.mem_of_getElem? (i := 103) rfl)) rfl
theorem tw_2_104 : Cond.code yX3_takeFromRacks prog_5_method_3_code 3 none ∈ qt := tn (tm2 (List.mem_of_getElem? (i := 104) rfl)) rfl
theorem tw_2_105 : Cond.methodLink RX9 123 yX9_growMoves ∈ qt := tn (tm2 (List.mem_of_getElem? (i := 105) rfl)) rfl
theorem tw_2_107 : Cond.instanceMethod yX9_growMoves ∈ qt := tn (tm2 (List.mem_of_getElem? (i := 107) rfl)) rfl
theorem tw_2_108 : Cond.code yX9_growMoves prog_1_method_52_code 1 none ∈ qt := tn (tm2 (List.mem_of_getElem? (i := 108) rfl)) rfl
theorem tw_2_109 : Cond.methodLink RL 36 yX9_of ∈ qt := tn (tm2 (List.mem_of_getElem? (i := 109) rfl)) rfl
theorem tw_2_110 : Cond.instanceMethod yX9_of ∈ qt := tn (tm2 (List.mem_of_getElem? (i := 110) rfl)) rfl
theorem tw_2_111 : Cond.selects RX9 yX9_of yX9_of ∈ qt := tn (tm2 (List.mem_of_getElem? (i := 111) rfl)) rfl
theorem tw_2_112 : Cond.code yX9_of prog_1_method_7_code 3 (some .int) ∈ qt := tn (tm2 (List.mem_of_getElem? (i := 112) rfl)) rfl
theorem tw_2_113 : Cond.methodLink RX9 126 yX9_isGenerator ∈ qt := tn (tm2 (List.mem_of_getElem? (i := 113) rfl)) rfl
theorem tw_2_115 : Cond.instanceMethod yX9_isGenerator ∈ qt := tn (tm2 (List.mem_of_getElem? (i := 115) rfl)) rfl
theorem tw_2_116 : Cond.code yX9_isGenerator prog_1_method_43_code 2 (some .boolean) ∈ qt := tn (tm2 (List.mem_of_getElem? (i := 116) rfl)) rfl
theorem tw_2_117 : Cond.methodLink RX9 129 yX9_tellMove ∈ qt := tn (tm2 (List.mem_of_getElem? (i := 117) rfl)) rfl
theorem tw_2_119 : Cond.instanceMethod yX9_tellMove ∈ qt := tn (tm2 (List.mem_of_getElem? (i := 119) rfl)) rfl
theorem tw_2_120 : Cond.code yX9_tellMove prog_1_method_53_code 4 (some .int) ∈ qt := tn (tm2 (List.mem_of_getElem? (i := 120) rfl)) rfl
theorem tw_2_121 : Cond.methodLink RX9 326 yX2_number ∈ qt := tn (tm2 (List.mem_of_getElem? (i := 121) rfl)) rfl
theorem tw_2_122 : Cond.static yX2_number ∈ qt := tn (tm2 (List.mem_of_getElem? (i := 122) rfl)) rfl
theorem tw_2_123 : Cond.code yX2_number prog_4_method_6_code 5 (some .int) ∈ qt := tn (tm2 (List.mem_of_getElem? (i := 123) rfl)) rfl
theorem tw_2_124 : Cond.methodLink RX9 336 yX2_cycleType ∈ qt := tn (tm2 (List.mem_of_getElem? (i := 124) rfl)) rfl
theorem tw_2_125 : Cond.static yX2_cycleType ∈ qt := tn (tm2 (List.mem_of_getElem? (i := 125) rfl)) rfl
theorem tw_2_126 : Cond.code yX2_cycleType prog_4_method_13_code 7 (some .int) ∈ qt := tn (tm2 (List.mem_of_getElem? (i := 126) rfl)) rfl
theorem tw_2_127 : Cond.fieldLinkNest RX2 22 "PaintFrames" "CYCLE_WORTH" "[I" "PaintFrames" ∈ lw_tbl := tm2 (List.mem_of_getElem? (i := 127) rfl)
theorem tw_2_128 : Cond.laysStatic RX9 "CYCLE_WORTH" "[I" ∈ lw_tbl := tm2 (List.mem_of_getElem? (i := 128) rfl)
theorem tw_2_129 : Cond.methodLink RL 40 yX9_lay ∈ qt := tn (tm2 (List.mem_of_getElem? (i := 129) rfl)) rfl
theorem tw_2_130 : Cond.instanceMethod yX9_lay ∈ qt := tn (tm2 (List.mem_of_getElem? (i := 130) rfl)) rfl
theorem tw_2_131 : Cond.selects RX9 yX9_lay yX9_lay ∈ qt := tn (tm2 (List.mem_of_getElem? (i := 131) rfl)) rfl
theorem tw_2_132 : Cond.code yX9_lay prog_1_method_8_code 6 (some .int) ∈ qt := tn (tm2 (List.mem_of_getElem? (i := 132) rfl)) rfl
theorem tw_2_133 : Cond.methodLink RX9 132 yX9_takes ∈ qt := tn (tm2 (List.mem_of_getElem? (i := 133) rfl)) rfl
theorem tw_2_134 : Cond.static yX9_takes ∈ qt := tn (tm2 (List.mem_of_getElem? (i := 134) rfl)) rfl
theorem tw_2_135 : Cond.code yX9_takes prog_1_method_44_code 2 (some .boolean) ∈ qt := tn (tm2 (List.mem_of_getElem? (i := 135) rfl)) rfl
theorem tw_2_136 : Cond.methodLink RL 45 yX9_rack ∈ qt := tn (tm2 (List.mem_of_getElem? (i := 136) rfl)) rfl
theorem tw_2_137 : Cond.instanceMethod yX9_rack ∈ qt := tn (tm2 (List.mem_of_getElem? (i := 137) rfl)) rfl
theorem tw_2_138 : Cond.selects RX9 yX9_rack yX9_rack ∈ qt := tn (tm2 (List.mem_of_getElem? (i := 138) rfl)) rfl
theorem tw_2_139 : Cond.code yX9_rack prog_1_method_9_code 4 (some .int) ∈ qt := tn (tm2 (List.mem_of_getElem? (i := 139) rfl)) rfl
theorem tw_2_140 : Cond.methodLink RX9 139 yX9_productOf ∈ qt := tn (tm2 (List.mem_of_getElem? (i := 140) rfl)) rfl
theorem tw_2_142 : Cond.instanceMethod yX9_productOf ∈ qt := tn (tm2 (List.mem_of_getElem? (i := 142) rfl)) rfl
theorem tw_2_143 : Cond.code yX9_productOf prog_1_method_54_code 5 (some .int) ∈ qt := tn (tm2 (List.mem_of_getElem? (i := 143) rfl)) rfl
theorem tw_2_144 : Cond.methodLink RX9 339 yX2_unmoved ∈ qt := tn (tm2 (List.mem_of_getElem? (i := 144) rfl)) rfl
theorem tw_2_145 : Cond.methodLink RX9 342 yX5_behind ∈ qt := tn (tm2 (List.mem_of_getElem? (i := 145) rfl)) rfl
theorem tw_2_146 : Cond.methodLink RL 49 yX9_move ∈ qt := tn (tm2 (List.mem_of_getElem? (i := 146) rfl)) rfl
theorem tw_2_147 : Cond.instanceMethod yX9_move ∈ qt := tn (tm2 (List.mem_of_getElem? (i := 147) rfl)) rfl
theorem tw_2_148 : Cond.selects RX9 yX9_move yX9_move ∈ qt := tn (tm2 (List.mem_of_getElem? (i := 148) rfl)) rfl
theorem tw_2_149 : Cond.code yX9_move prog_1_method_10_code 3 (some .int) ∈ qt := tn (tm2 (List.mem_of_getElem? (i := 149) rfl)) rfl
theorem tw_2_150 : Cond.methodLink RL 53 yX9_told ∈ qt := tn (tm2 (List.mem_of_getElem? (i := 150) rfl)) rfl
theorem tw_2_151 : Cond.instanceMethod yX9_told ∈ qt := tn (tm2 (List.mem_of_getElem? (i := 151) rfl)) rfl
theorem tw_2_152 : Cond.selects RX9 yX9_told yX9_told ∈ qt := tn (tm2 (List.mem_of_getElem? (i := 152) rfl)) rfl
theorem tw_2_153 : Cond.code yX9_told prog_1_method_11_code 2 (some .int) ∈ qt := tn (tm2 (List.mem_of_getElem? (i := 153) rfl)) rfl
theorem tw_2_154 : Cond.methodLink RX9 151 yX9_paintings ∈ qt := tn (tm2 (List.mem_of_getElem? (i := 154) rfl)) rfl
theorem tw_2_156 : Cond.instanceMethod yX9_paintings ∈ qt := tn (tm2 (List.mem_of_getElem? (i := 156) rfl)) rfl
theorem tw_2_157 : Cond.code yX9_paintings prog_1_method_48_code 3 (some .int) ∈ qt := tn (tm2 (List.mem_of_getElem? (i := 157) rfl)) rfl
theorem tw_2_158 : Cond.methodLink RX9 155 yX9_howManyClasses ∈ qt := tn (tm2 (List.mem_of_getElem? (i := 158) rfl)) rfl
theorem tw_2_160 : Cond.instanceMethod yX9_howManyClasses ∈ qt := tn (tm2 (List.mem_of_getElem? (i := 160) rfl)) rfl
theorem tw_2_161 : Cond.code yX9_howManyClasses prog_1_method_49_code 2 (some .int) ∈ qt := tn (tm2 (List.mem_of_getElem? (i := 161) rfl)) rfl
theorem tw_2_162 : Cond.methodLink RX9 158 yX4_fill ∈ qt := tn (tm2 (List.mem_of_getElem? (i := 162) rfl)) rfl
theorem tw_2_163 : Cond.instanceMethod yX4_fill ∈ qt := tn (tm2 (List.mem_of_getElem? (i := 163) rfl)) rfl
theorem tw_2_164 : Cond.selects RX4 yX4_fill yX4_fill ∈ qt := tn (tm2 (List.mem_of_getElem? (i := 164) rfl)) rfl
theorem tw_2_165 : Cond.code yX4_fill prog_6_method_2_code 4 none ∈ qt := tn (tm2 (List.mem_of_getElem? (i := 165) rfl)) rfl
theorem tw_2_166 : Cond.methodLink RX4 22 yX5_howManyBy ∈ qt := tn (tm2 (List.mem_of_getElem? (i := 166) rfl)) rfl
theorem tw_2_167 : Cond.instanceMethod yX5_howManyBy ∈ qt := tn (tm2 (List.mem_of_getElem? (i := 167) rfl)) rfl
theorem tw_2_168 : Cond.selects RX5 yX5_howManyBy yX5_howManyBy ∈ qt := tn (tm2 (List.mem_of_getElem? (i := 168) rfl)) rfl
theorem tw_2_169 : Cond.code yX5_howManyBy prog_7_method_7_code 2 (some .int) ∈ qt := tn (tm2 (List.mem_of_getElem? (i := 169) rfl)) rfl
theorem tw_2_170 : Cond.methodLink RX4 40 yX2_cycleType ∈ qt := tn (tm2 (List.mem_of_getElem? (i := 170) rfl)) rfl
theorem tw_2_171 : Cond.methodLink RX4 46 yX4_add ∈ qt := tn (tm2 (List.mem_of_getElem? (i := 171) rfl)) rfl
theorem tw_2_173 : Cond.instanceMethod yX4_add ∈ qt := tn (tm2 (List.mem_of_getElem? (i := 173) rfl)) rfl
theorem tw_2_174 : Cond.code yX4_add prog_6_method_3_code 3 none ∈ qt := tn (tm2 (List.mem_of_getElem? (i := 174) rfl)) rfl
theorem tw_2_175 : Cond.methodLink RX4 50 (⟨"java/lang/System", "arraycopy", "(Ljava/lang/Object;ILjava/lang/Object;II)V"⟩ : MethodName) ∈ qt := tn (tm2 (List.mem_of_getElem? (i := 175) rfl)) rfl
theorem tw_2_176 : Cond.methodLink RX9 178 yX4_classesFor ∈ qt := tn (tm2 (List.mem_of_getElem? (i := 176) rfl)) rfl
theorem tw_2_177 : Cond.instanceMethod yX4_classesFor ∈ qt := tn (tm2 (List.mem_of_getElem? (i := 177) rfl)) rfl
theorem tw_2_178 : Cond.selects RX4 yX4_classesFor yX4_classesFor ∈ qt := tn (tm2 (List.mem_of_getElem? (i := 178) rfl)) rfl
theorem tw_2_179 : Cond.code yX4_classesFor prog_6_method_4_code 5 (some .long) ∈ qt := tn (tm2 (List.mem_of_getElem? (i := 179) rfl)) rfl
theorem tw_2_180 : Cond.methodLink RX4 56 yX4_paintingsLeft ∈ qt := tn (tm2 (List.mem_of_getElem? (i := 180) rfl)) rfl
theorem tw_2_181 : Cond.static yX4_paintingsLeft ∈ qt := tn (tm2 (List.mem_of_getElem? (i := 181) rfl)) rfl
theorem tw_2_182 : Cond.code yX4_paintingsLeft prog_6_method_5_code 7 (some .long) ∈ qt := tn (tm2 (List.mem_of_getElem? (i := 182) rfl)) rfl
theorem tw_2_183 : Cond.methodLink RL 57 yX9_index ∈ qt := tn (tm2 (List.mem_of_getElem? (i := 183) rfl)) rfl
theorem tw_2_184 : Cond.instanceMethod yX9_index ∈ qt := tn (tm2 (List.mem_of_getElem? (i := 184) rfl)) rfl
theorem tw_2_185 : Cond.selects RX9 yX9_index yX9_index ∈ qt := tn (tm2 (List.mem_of_getElem? (i := 185) rfl)) rfl
theorem tw_2_186 : Cond.code yX9_index prog_1_method_12_code 4 (some .int) ∈ qt := tn (tm2 (List.mem_of_getElem? (i := 186) rfl)) rfl
theorem tw_2_187 : Cond.methodLink RL 61 yX9_part ∈ qt := tn (tm2 (List.mem_of_getElem? (i := 187) rfl)) rfl
theorem tw_2_188 : Cond.instanceMethod yX9_part ∈ qt := tn (tm2 (List.mem_of_getElem? (i := 188) rfl)) rfl
theorem tw_2_189 : Cond.selects RX9 yX9_part yX9_part ∈ qt := tn (tm2 (List.mem_of_getElem? (i := 189) rfl)) rfl
theorem tw_2_190 : Cond.code yX9_part prog_1_method_13_code 6 (some .long) ∈ qt := tn (tm2 (List.mem_of_getElem? (i := 190) rfl)) rfl
theorem tw_2_191 : Cond.constantLong RX9 171 (-9223372036854775808) ∈ qt := tn (tm2 (List.mem_of_getElem? (i := 191) rfl)) rfl
theorem tw_2_192 : Cond.methodLink RX9 175 yX9_commonDivisor ∈ qt := tn (tm2 (List.mem_of_getElem? (i := 192) rfl)) rfl
theorem tw_2_193 : Cond.static yX9_commonDivisor ∈ qt := tn (tm2 (List.mem_of_getElem? (i := 193) rfl)) rfl
theorem tw_2_194 : Cond.code yX9_commonDivisor prog_1_method_55_code 6 (some .int) ∈ qt := tn (tm2 (List.mem_of_getElem? (i := 194) rfl)) rfl
theorem tw_2_195 : Cond.methodLink RL 66 yX9_many ∈ qt := tn (tm2 (List.mem_of_getElem? (i := 195) rfl)) rfl
theorem tw_2_196 : Cond.instanceMethod yX9_many ∈ qt := tn (tm2 (List.mem_of_getElem? (i := 196) rfl)) rfl
theorem tw_2_197 : Cond.selects RX9 yX9_many yX9_many ∈ qt := tn (tm2 (List.mem_of_getElem? (i := 197) rfl)) rfl
theorem tw_2_198 : Cond.code yX9_many prog_1_method_14_code 3 (some .long) ∈ qt := tn (tm2 (List.mem_of_getElem? (i := 198) rfl)) rfl
theorem tw_2_199 : Cond.methodLink RL 71 yX9_least ∈ qt := tn (tm2 (List.mem_of_getElem? (i := 199) rfl)) rfl
theorem tw_2_200 : Cond.instanceMethod yX9_least ∈ qt := tn (tm2 (List.mem_of_getElem? (i := 200) rfl)) rfl
theorem tw_2_201 : Cond.selects RX9 yX9_least yX9_least ∈ qt := tn (tm2 (List.mem_of_getElem? (i := 201) rfl)) rfl
theorem tw_2_202 : Cond.code yX9_least prog_1_method_15_code 4 (some .int) ∈ qt := tn (tm2 (List.mem_of_getElem? (i := 202) rfl)) rfl
theorem tw_2_203 : Cond.methodLink RX9 182 yX9_packedPainting ∈ qt := tn (tm2 (List.mem_of_getElem? (i := 203) rfl)) rfl
theorem tw_2_205 : Cond.instanceMethod yX9_packedPainting ∈ qt := tn (tm2 (List.mem_of_getElem? (i := 205) rfl)) rfl
theorem tw_2_206 : Cond.code yX9_packedPainting prog_1_method_46_code 2 (some .int) ∈ qt := tn (tm2 (List.mem_of_getElem? (i := 206) rfl)) rfl
theorem tw_2_207 : Cond.methodLink RX9 322 yX2_packed ∈ qt := tn (tm2 (List.mem_of_getElem? (i := 207) rfl)) rfl
theorem tw_2_208 : Cond.methodLink RX9 185 yX5_leastMade ∈ qt := tn (tm2 (List.mem_of_getElem? (i := 208) rfl)) rfl
theorem tw_2_209 : Cond.instanceMethod yX5_leastMade ∈ qt := tn (tm2 (List.mem_of_getElem? (i := 209) rfl)) rfl
theorem tw_2_210 : Cond.selects RX5 yX5_leastMade yX5_leastMade ∈ qt := tn (tm2 (List.mem_of_getElem? (i := 210) rfl)) rfl
theorem tw_2_211 : Cond.code yX5_leastMade prog_7_method_8_code 8 (some .int) ∈ qt := tn (tm2 (List.mem_of_getElem? (i := 211) rfl)) rfl
theorem tw_2_212 : Cond.methodLink RX9 189 yX9_paintingNumber ∈ qt := tn (tm2 (List.mem_of_getElem? (i := 212) rfl)) rfl
theorem tw_2_214 : Cond.instanceMethod yX9_paintingNumber ∈ qt := tn (tm2 (List.mem_of_getElem? (i := 214) rfl)) rfl
theorem tw_2_215 : Cond.code yX9_paintingNumber prog_1_method_47_code 2 (some .int) ∈ qt := tn (tm2 (List.mem_of_getElem? (i := 215) rfl)) rfl
theorem tw_2_216 : Cond.methodLink RL 75 yX9_size ∈ qt := tn (tm2 (List.mem_of_getElem? (i := 216) rfl)) rfl
theorem tw_2_217 : Cond.instanceMethod yX9_size ∈ qt := tn (tm2 (List.mem_of_getElem? (i := 217) rfl)) rfl
theorem tw_2_218 : Cond.selects RX9 yX9_size yX9_size ∈ qt := tn (tm2 (List.mem_of_getElem? (i := 218) rfl)) rfl
theorem tw_2_219 : Cond.code yX9_size prog_1_method_16_code 4 (some .int) ∈ qt := tn (tm2 (List.mem_of_getElem? (i := 219) rfl)) rfl
theorem tw_2_220 : Cond.methodLink RX9 192 yX5_howManyMade ∈ qt := tn (tm2 (List.mem_of_getElem? (i := 220) rfl)) rfl
theorem tw_2_221 : Cond.instanceMethod yX5_howManyMade ∈ qt := tn (tm2 (List.mem_of_getElem? (i := 221) rfl)) rfl
theorem tw_2_222 : Cond.selects RX5 yX5_howManyMade yX5_howManyMade ∈ qt := tn (tm2 (List.mem_of_getElem? (i := 222) rfl)) rfl
theorem tw_2_223 : Cond.code yX5_howManyMade prog_7_method_9_code 5 (some .int) ∈ qt := tn (tm2 (List.mem_of_getElem? (i := 223) rfl)) rfl
theorem tw_2_224 : Cond.methodLink RX5 58 yX5_howManyBy ∈ qt := tn (tm2 (List.mem_of_getElem? (i := 224) rfl)) rfl
theorem tw_2_225 : Cond.methodLink RL 79 yX9_kindOf ∈ qt := tn (tm2 (List.mem_of_getElem? (i := 225) rfl)) rfl
theorem tw_2_226 : Cond.instanceMethod yX9_kindOf ∈ qt := tn (tm2 (List.mem_of_getElem? (i := 226) rfl)) rfl
theorem tw_2_227 : Cond.selects RX9 yX9_kindOf yX9_kindOf ∈ qt := tn (tm2 (List.mem_of_getElem? (i := 227) rfl)) rfl
theorem tw_2_228 : Cond.code yX9_kindOf prog_1_method_17_code 6 (some .int) ∈ qt := tn (tm2 (List.mem_of_getElem? (i := 228) rfl)) rfl
theorem tw_2_229 : Cond.methodLink RX9 195 yX9_classesBy ∈ qt := tn (tm2 (List.mem_of_getElem? (i := 229) rfl)) rfl
theorem tw_2_231 : Cond.instanceMethod yX9_classesBy ∈ qt := tn (tm2 (List.mem_of_getElem? (i := 231) rfl)) rfl
theorem tw_2_232 : Cond.code yX9_classesBy prog_1_method_50_code 3 (some (.object "PaintFrames$Classes")) ∈ qt := tn (tm2 (List.mem_of_getElem? (i := 232) rfl)) rfl
theorem tw_2_233 : Cond.methodLink RX9 332 yX1_find ∈ qt := tn (tm2 (List.mem_of_getElem? (i := 233) rfl)) rfl
theorem tw_2_234 : Cond.instanceMethod yX1_find ∈ qt := tn (tm2 (List.mem_of_getElem? (i := 234) rfl)) rfl
theorem tw_2_235 : Cond.selects RX1 yX1_find yX1_find ∈ qt := tn (tm2 (List.mem_of_getElem? (i := 235) rfl)) rfl
theorem tw_2_236 : Cond.code yX1_find prog_3_method_2_code 7 none ∈ qt := tn (tm2 (List.mem_of_getElem? (i := 236) rfl)) rfl
theorem tw_2_237 : Cond.methodLink RX1 17 yX5_isLeast ∈ qt := tn (tm2 (List.mem_of_getElem? (i := 237) rfl)) rfl
theorem tw_2_238 : Cond.instanceMethod yX5_isLeast ∈ qt := tn (tm2 (List.mem_of_getElem? (i := 238) rfl)) rfl
theorem tw_2_239 : Cond.selects RX5 yX5_isLeast yX5_isLeast ∈ qt := tn (tm2 (List.mem_of_getElem? (i := 239) rfl)) rfl
theorem tw_3_0 : Cond.code yX5_isLeast prog_7_method_11_code 4 (some .boolean) ∈ qt := tn (tm3 (List.mem_of_getElem? (i := 0) rfl)) rfl
theorem tw_3_1 : Cond.methodLink RX5 61 yX2_becomesLess ∈ qt := tn (tm3 (List.mem_of_getElem? (i := 1) rfl)) rfl
theorem tw_3_2 : Cond.static yX2_becomesLess ∈ qt := tn (tm3 (List.mem_of_getElem? (i := 2) rfl)) rfl
theorem tw_3_3 : Cond.code yX2_becomesLess prog_4_method_9_code 6 (some .boolean) ∈ qt := tn (tm3 (List.mem_of_getElem? (i := 3) rfl)) rfl
theorem tw_3_4 : Cond.methodLink RX1 26 yX2_nextPainting ∈ qt := tn (tm3 (List.mem_of_getElem? (i := 4) rfl)) rfl
theorem tw_3_5 : Cond.static yX2_nextPainting ∈ qt := tn (tm3 (List.mem_of_getElem? (i := 5) rfl)) rfl
theorem tw_3_6 : Cond.code yX2_nextPainting prog_4_method_10_code 6 (some .int) ∈ qt := tn (tm3 (List.mem_of_getElem? (i := 6) rfl)) rfl
theorem tw_3_7 : Cond.methodLink RX9 205 yX3_weightOf ∈ qt := tn (tm3 (List.mem_of_getElem? (i := 7) rfl)) rfl
theorem tw_3_8 : Cond.instanceMethod yX3_weightOf ∈ qt := tn (tm3 (List.mem_of_getElem? (i := 8) rfl)) rfl
theorem tw_3_9 : Cond.selects RX3 yX3_weightOf yX3_weightOf ∈ qt := tn (tm3 (List.mem_of_getElem? (i := 9) rfl)) rfl
theorem tw_3_10 : Cond.code yX3_weightOf prog_5_method_5_code 4 (some .int) ∈ qt := tn (tm3 (List.mem_of_getElem? (i := 10) rfl)) rfl
theorem tw_3_11 : Cond.methodLink RX3 55 yX3_weightAt ∈ qt := tn (tm3 (List.mem_of_getElem? (i := 11) rfl)) rfl
theorem tw_3_12 : Cond.instanceMethod yX3_weightAt ∈ qt := tn (tm3 (List.mem_of_getElem? (i := 12) rfl)) rfl
theorem tw_3_13 : Cond.selects RX3 yX3_weightAt yX3_weightAt ∈ qt := tn (tm3 (List.mem_of_getElem? (i := 13) rfl)) rfl
theorem tw_3_14 : Cond.code yX3_weightAt prog_5_method_4_code 4 (some .int) ∈ qt := tn (tm3 (List.mem_of_getElem? (i := 14) rfl)) rfl
theorem tw_3_15 : Cond.methodLink RX3 49 yX2_at ∈ qt := tn (tm3 (List.mem_of_getElem? (i := 15) rfl)) rfl
theorem tw_3_16 : Cond.methodLink RX9 208 yX2_howOftenEach ∈ qt := tn (tm3 (List.mem_of_getElem? (i := 16) rfl)) rfl
theorem tw_3_17 : Cond.static yX2_howOftenEach ∈ qt := tn (tm3 (List.mem_of_getElem? (i := 17) rfl)) rfl
theorem tw_3_18 : Cond.code yX2_howOftenEach prog_4_method_12_code 4 (some .int) ∈ qt := tn (tm3 (List.mem_of_getElem? (i := 18) rfl)) rfl
theorem tw_3_19 : Cond.methodLink RL 83 yX9_heavy ∈ qt := tn (tm3 (List.mem_of_getElem? (i := 19) rfl)) rfl
theorem tw_3_20 : Cond.instanceMethod yX9_heavy ∈ qt := tn (tm3 (List.mem_of_getElem? (i := 20) rfl)) rfl
theorem tw_3_21 : Cond.selects RX9 yX9_heavy yX9_heavy ∈ qt := tn (tm3 (List.mem_of_getElem? (i := 21) rfl)) rfl
theorem tw_3_22 : Cond.code yX9_heavy prog_1_method_18_code 6 (some .int) ∈ qt := tn (tm3 (List.mem_of_getElem? (i := 22) rfl)) rfl
theorem tw_3_23 : Cond.methodLink RL 87 yX9_use ∈ qt := tn (tm3 (List.mem_of_getElem? (i := 23) rfl)) rfl
theorem tw_3_24 : Cond.instanceMethod yX9_use ∈ qt := tn (tm3 (List.mem_of_getElem? (i := 24) rfl)) rfl
theorem tw_3_25 : Cond.selects RX9 yX9_use yX9_use ∈ qt := tn (tm3 (List.mem_of_getElem? (i := 25) rfl)) rfl
theorem tw_3_26 : Cond.code yX9_use prog_1_method_19_code 6 (some .int) ∈ qt := tn (tm3 (List.mem_of_getElem? (i := 26) rfl)) rfl
theorem tw_3_27 : Cond.methodLink RL 91 yX9_same ∈ qt := tn (tm3 (List.mem_of_getElem? (i := 27) rfl)) rfl
theorem tw_3_28 : Cond.instanceMethod yX9_same ∈ qt := tn (tm3 (List.mem_of_getElem? (i := 28) rfl)) rfl
theorem tw_3_29 : Cond.selects RX9 yX9_same yX9_same ∈ qt := tn (tm3 (List.mem_of_getElem? (i := 29) rfl)) rfl
theorem tw_3_30 : Cond.code yX9_same prog_1_method_20_code 6 (some .int) ∈ qt := tn (tm3 (List.mem_of_getElem? (i := 30) rfl)) rfl
theorem tw_3_31 : Cond.methodLink RX9 211 yX5_makes ∈ qt := tn (tm3 (List.mem_of_getElem? (i := 31) rfl)) rfl
theorem tw_3_32 : Cond.instanceMethod yX5_makes ∈ qt := tn (tm3 (List.mem_of_getElem? (i := 32) rfl)) rfl
theorem tw_3_33 : Cond.selects RX5 yX5_makes yX5_makes ∈ qt := tn (tm3 (List.mem_of_getElem? (i := 33) rfl)) rfl
theorem tw_3_34 : Cond.code yX5_makes prog_7_method_10_code 5 (some .boolean) ∈ qt := tn (tm3 (List.mem_of_getElem? (i := 34) rfl)) rfl
theorem tw_3_35 : Cond.methodLink RL 95 yX9_handed ∈ qt := tn (tm3 (List.mem_of_getElem? (i := 35) rfl)) rfl
theorem tw_3_36 : Cond.instanceMethod yX9_handed ∈ qt := tn (tm3 (List.mem_of_getElem? (i := 36) rfl)) rfl
theorem tw_3_37 : Cond.selects RX9 yX9_handed yX9_handed ∈ qt := tn (tm3 (List.mem_of_getElem? (i := 37) rfl)) rfl
theorem tw_3_38 : Cond.code yX9_handed prog_1_method_21_code 6 (some .int) ∈ qt := tn (tm3 (List.mem_of_getElem? (i := 38) rfl)) rfl
theorem tw_3_39 : Cond.methodLink RL 99 yX9_even ∈ qt := tn (tm3 (List.mem_of_getElem? (i := 39) rfl)) rfl
theorem tw_3_40 : Cond.instanceMethod yX9_even ∈ qt := tn (tm3 (List.mem_of_getElem? (i := 40) rfl)) rfl
theorem tw_3_41 : Cond.selects RX9 yX9_even yX9_even ∈ qt := tn (tm3 (List.mem_of_getElem? (i := 41) rfl)) rfl
theorem tw_3_42 : Cond.code yX9_even prog_1_method_22_code 2 (some .int) ∈ qt := tn (tm3 (List.mem_of_getElem? (i := 42) rfl)) rfl
theorem tw_3_43 : Cond.methodLink RX9 215 yX0_ofFloat ∈ qt := tn (tm3 (List.mem_of_getElem? (i := 43) rfl)) rfl
theorem tw_3_44 : Cond.static yX0_ofFloat ∈ qt := tn (tm3 (List.mem_of_getElem? (i := 44) rfl)) rfl
theorem tw_3_45 : Cond.code yX0_ofFloat prog_2_method_2_code 5 (some .int) ∈ qt := tn (tm3 (List.mem_of_getElem? (i := 45) rfl)) rfl
theorem tw_3_46 : Cond.methodLink RX0 7 yX0_ofDouble ∈ qt := tn (tm3 (List.mem_of_getElem? (i := 46) rfl)) rfl
theorem tw_3_47 : Cond.static yX0_ofDouble ∈ qt := tn (tm3 (List.mem_of_getElem? (i := 47) rfl)) rfl
theorem tw_3_48 : Cond.code yX0_ofDouble prog_2_method_3_code 8 (some .long) ∈ qt := tn (tm3 (List.mem_of_getElem? (i := 48) rfl)) rfl
theorem tw_3_49 : Cond.constantLong RX0 14 1023 ∈ qt := tn (tm3 (List.mem_of_getElem? (i := 49) rfl)) rfl
theorem tw_3_50 : Cond.constantDouble RX0 16 4611686018427387904 ∈ qt := tn (tm3 (List.mem_of_getElem? (i := 50) rfl)) rfl
theorem tw_3_51 : Cond.constantLong RX0 18 4503599627370496 ∈ qt := tn (tm3 (List.mem_of_getElem? (i := 51) rfl)) rfl
theorem tw_3_52 : Cond.constant RX0 13 8388607 ∈ qt := tn (tm3 (List.mem_of_getElem? (i := 52) rfl)) rfl
theorem tw_3_53 : Cond.methodLink RL 103 yX9_likely ∈ qt := tn (tm3 (List.mem_of_getElem? (i := 53) rfl)) rfl
theorem tw_3_54 : Cond.instanceMethod yX9_likely ∈ qt := tn (tm3 (List.mem_of_getElem? (i := 54) rfl)) rfl
theorem tw_3_55 : Cond.selects RX9 yX9_likely yX9_likely ∈ qt := tn (tm3 (List.mem_of_getElem? (i := 55) rfl)) rfl
theorem tw_3_56 : Cond.code yX9_likely prog_1_method_23_code 4 (some .long) ∈ qt := tn (tm3 (List.mem_of_getElem? (i := 56) rfl)) rfl
theorem tw_3_57 : Cond.methodLink RX9 221 yX0_ofDouble ∈ qt := tn (tm3 (List.mem_of_getElem? (i := 57) rfl)) rfl
theorem tw_3_58 : Cond.methodLink RL 107 yX9_mean ∈ qt := tn (tm3 (List.mem_of_getElem? (i := 58) rfl)) rfl
theorem tw_3_59 : Cond.instanceMethod yX9_mean ∈ qt := tn (tm3 (List.mem_of_getElem? (i := 59) rfl)) rfl
theorem tw_3_60 : Cond.selects RX9 yX9_mean yX9_mean ∈ qt := tn (tm3 (List.mem_of_getElem? (i := 60) rfl)) rfl
theorem tw_3_61 : Cond.code yX9_mean prog_1_method_24_code 5 (some .int) ∈ qt := tn (tm3 (List.mem_of_getElem? (i := 61) rfl)) rfl
theorem tw_3_62 : Cond.constantFloat RX9 225 1056964608 ∈ qt := tn (tm3 (List.mem_of_getElem? (i := 62) rfl)) rfl
theorem tw_3_63 : Cond.methodLink RL 111 yX9_spread ∈ qt := tn (tm3 (List.mem_of_getElem? (i := 63) rfl)) rfl
theorem tw_3_64 : Cond.instanceMethod yX9_spread ∈ qt := tn (tm3 (List.mem_of_getElem? (i := 64) rfl)) rfl
theorem tw_3_65 : Cond.selects RX9 yX9_spread yX9_spread ∈ qt := tn (tm3 (List.mem_of_getElem? (i := 65) rfl)) rfl
theorem tw_3_66 : Cond.code yX9_spread prog_1_method_25_code 11 (some .long) ∈ qt := tn (tm3 (List.mem_of_getElem? (i := 66) rfl)) rfl
theorem tw_3_67 : Cond.methodLink RX9 226 yX3_weightAt ∈ qt := tn (tm3 (List.mem_of_getElem? (i := 67) rfl)) rfl
theorem tw_3_68 : Cond.methodLink RL 115 yX9_feed ∈ qt := tn (tm3 (List.mem_of_getElem? (i := 68) rfl)) rfl
theorem tw_3_69 : Cond.instanceMethod yX9_feed ∈ qt := tn (tm3 (List.mem_of_getElem? (i := 69) rfl)) rfl
theorem tw_3_70 : Cond.selects RX9 yX9_feed yX9_feed ∈ qt := tn (tm3 (List.mem_of_getElem? (i := 70) rfl)) rfl
theorem tw_3_71 : Cond.code yX9_feed prog_1_method_26_code 2 (some .int) ∈ qt := tn (tm3 (List.mem_of_getElem? (i := 71) rfl)) rfl
theorem tw_3_72 : Cond.methodLink RX9 229 yX7_add ∈ qt := tn (tm3 (List.mem_of_getElem? (i := 72) rfl)) rfl
theorem tw_3_73 : Cond.instanceMethod yX7_add ∈ qt := tn (tm3 (List.mem_of_getElem? (i := 73) rfl)) rfl
theorem tw_3_74 : Cond.selects RX7 yX7_add yX7_add ∈ qt := tn (tm3 (List.mem_of_getElem? (i := 74) rfl)) rfl
theorem tw_3_75 : Cond.code yX7_add prog_9_method_2_code 2 (some .boolean) ∈ qt := tn (tm3 (List.mem_of_getElem? (i := 75) rfl)) rfl
theorem tw_3_76 : Cond.methodLink RL 119 yX9_read ∈ qt := tn (tm3 (List.mem_of_getElem? (i := 76) rfl)) rfl
theorem tw_3_77 : Cond.instanceMethod yX9_read ∈ qt := tn (tm3 (List.mem_of_getElem? (i := 77) rfl)) rfl
theorem tw_3_78 : Cond.selects RX9 yX9_read yX9_read ∈ qt := tn (tm3 (List.mem_of_getElem? (i := 78) rfl)) rfl
theorem tw_3_79 : Cond.code yX9_read prog_1_method_27_code 4 (some .int) ∈ qt := tn (tm3 (List.mem_of_getElem? (i := 79) rfl)) rfl
theorem tw_3_80 : Cond.methodLink RX9 235 yX7_findFault ∈ qt := tn (tm3 (List.mem_of_getElem? (i := 80) rfl)) rfl
theorem tw_3_81 : Cond.instanceMethod yX7_findFault ∈ qt := tn (tm3 (List.mem_of_getElem? (i := 81) rfl)) rfl
theorem tw_3_82 : Cond.selects RX7 yX7_findFault yX7_findFault ∈ qt := tn (tm3 (List.mem_of_getElem? (i := 82) rfl)) rfl
theorem tw_3_83 : Cond.code yX7_findFault prog_9_method_5_code 4 (some .int) ∈ qt := tn (tm3 (List.mem_of_getElem? (i := 83) rfl)) rfl
theorem tw_3_84 : Cond.methodLink RX7 32 yX7_afterDigits ∈ qt := tn (tm3 (List.mem_of_getElem? (i := 84) rfl)) rfl
theorem tw_3_86 : Cond.instanceMethod yX7_afterDigits ∈ qt := tn (tm3 (List.mem_of_getElem? (i := 86) rfl)) rfl
theorem tw_3_87 : Cond.code yX7_afterDigits prog_9_method_6_code 4 (some .int) ∈ qt := tn (tm3 (List.mem_of_getElem? (i := 87) rfl)) rfl
theorem tw_3_88 : Cond.methodLink RX7 25 yX7_signAt ∈ qt := tn (tm3 (List.mem_of_getElem? (i := 88) rfl)) rfl
theorem tw_3_90 : Cond.instanceMethod yX7_signAt ∈ qt := tn (tm3 (List.mem_of_getElem? (i := 90) rfl)) rfl
theorem tw_3_91 : Cond.code yX7_signAt prog_9_method_3_code 2 (some .int) ∈ qt := tn (tm3 (List.mem_of_getElem? (i := 91) rfl)) rfl
theorem tw_3_92 : Cond.methodLink RX7 38 yX7_mostDigits ∈ qt := tn (tm3 (List.mem_of_getElem? (i := 92) rfl)) rfl
theorem tw_3_93 : Cond.static yX7_mostDigits ∈ qt := tn (tm3 (List.mem_of_getElem? (i := 93) rfl)) rfl
theorem tw_3_94 : Cond.code yX7_mostDigits prog_9_method_7_code 1 (some .int) ∈ qt := tn (tm3 (List.mem_of_getElem? (i := 94) rfl)) rfl
theorem tw_3_95 : Cond.methodLink RX7 41 yX7_isDigitAt ∈ qt := tn (tm3 (List.mem_of_getElem? (i := 95) rfl)) rfl
theorem tw_3_97 : Cond.instanceMethod yX7_isDigitAt ∈ qt := tn (tm3 (List.mem_of_getElem? (i := 97) rfl)) rfl
theorem tw_3_98 : Cond.code yX7_isDigitAt prog_9_method_4_code 3 (some .boolean) ∈ qt := tn (tm3 (List.mem_of_getElem? (i := 98) rfl)) rfl
theorem tw_3_99 : Cond.methodLink RX7 35 yX7_fewestDigits ∈ qt := tn (tm3 (List.mem_of_getElem? (i := 99) rfl)) rfl
theorem tw_3_100 : Cond.static yX7_fewestDigits ∈ qt := tn (tm3 (List.mem_of_getElem? (i := 100) rfl)) rfl
theorem tw_3_101 : Cond.code yX7_fewestDigits prog_9_method_8_code 1 (some .int) ∈ qt := tn (tm3 (List.mem_of_getElem? (i := 101) rfl)) rfl
theorem tw_3_102 : Cond.methodLink RX9 238 yX7_explain ∈ qt := tn (tm3 (List.mem_of_getElem? (i := 102) rfl)) rfl
theorem tw_3_103 : Cond.instanceMethod yX7_explain ∈ qt := tn (tm3 (List.mem_of_getElem? (i := 103) rfl)) rfl
theorem tw_3_104 : Cond.selects RX7 yX7_explain yX7_explain ∈ qt := tn (tm3 (List.mem_of_getElem? (i := 104) rfl)) rfl
theorem tw_3_105 : Cond.code yX7_explain prog_9_method_9_code 4 none ∈ qt := tn (tm3 (List.mem_of_getElem? (i := 105) rfl)) rfl
theorem tw_3_106 : Cond.methodLink RX7 45 yX8_begin ∈ qt := tn (tm3 (List.mem_of_getElem? (i := 106) rfl)) rfl
theorem tw_3_107 : Cond.methodLink RX7 51 yX8_because ∈ qt := tn (tm3 (List.mem_of_getElem? (i := 107) rfl)) rfl
theorem tw_3_108 : Cond.methodLink RX9 245 yX7_letterOf ∈ qt := tn (tm3 (List.mem_of_getElem? (i := 108) rfl)) rfl
theorem tw_3_109 : Cond.instanceMethod yX7_letterOf ∈ qt := tn (tm3 (List.mem_of_getElem? (i := 109) rfl)) rfl
theorem tw_3_110 : Cond.selects RX7 yX7_letterOf yX7_letterOf ∈ qt := tn (tm3 (List.mem_of_getElem? (i := 110) rfl)) rfl
theorem tw_3_111 : Cond.code yX7_letterOf prog_9_method_10_code 2 (some .int) ∈ qt := tn (tm3 (List.mem_of_getElem? (i := 111) rfl)) rfl
theorem tw_3_112 : Cond.methodLink RX9 248 yX7_numberOf ∈ qt := tn (tm3 (List.mem_of_getElem? (i := 112) rfl)) rfl
theorem tw_3_113 : Cond.instanceMethod yX7_numberOf ∈ qt := tn (tm3 (List.mem_of_getElem? (i := 113) rfl)) rfl
theorem tw_3_114 : Cond.selects RX7 yX7_numberOf yX7_numberOf ∈ qt := tn (tm3 (List.mem_of_getElem? (i := 114) rfl)) rfl
theorem tw_3_115 : Cond.code yX7_numberOf prog_9_method_11_code 4 (some .int) ∈ qt := tn (tm3 (List.mem_of_getElem? (i := 115) rfl)) rfl
theorem tw_3_116 : Cond.methodLink RX9 251 yX9_doClause ∈ qt := tn (tm3 (List.mem_of_getElem? (i := 116) rfl)) rfl
theorem tw_3_118 : Cond.instanceMethod yX9_doClause ∈ qt := tn (tm3 (List.mem_of_getElem? (i := 118) rfl)) rfl
theorem tw_3_119 : Cond.code yX9_doClause prog_1_method_56_code 3 (some .int) ∈ qt := tn (tm3 (List.mem_of_getElem? (i := 119) rfl)) rfl
theorem tw_3_120 : Cond.methodLink RX9 345 yX9_places ∈ qt := tn (tm3 (List.mem_of_getElem? (i := 120) rfl)) rfl
theorem tw_3_121 : Cond.methodLink RX9 347 yX9_kinds ∈ qt := tn (tm3 (List.mem_of_getElem? (i := 121) rfl)) rfl
theorem tw_3_122 : Cond.methodLink RX9 349 yX9_weight ∈ qt := tn (tm3 (List.mem_of_getElem? (i := 122) rfl)) rfl
theorem tw_3_123 : Cond.methodLink RX9 352 yX9_generator ∈ qt := tn (tm3 (List.mem_of_getElem? (i := 123) rfl)) rfl
theorem tw_3_124 : Cond.methodLink RL 123 yX9_cause ∈ qt := tn (tm3 (List.mem_of_getElem? (i := 124) rfl)) rfl
theorem tw_3_125 : Cond.instanceMethod yX9_cause ∈ qt := tn (tm3 (List.mem_of_getElem? (i := 125) rfl)) rfl
theorem tw_3_126 : Cond.selects RX9 yX9_cause yX9_cause ∈ qt := tn (tm3 (List.mem_of_getElem? (i := 126) rfl)) rfl
theorem tw_3_127 : Cond.code yX9_cause prog_1_method_28_code 3 (some .int) ∈ qt := tn (tm3 (List.mem_of_getElem? (i := 127) rfl)) rfl
theorem tw_3_128 : Cond.methodLink RL 127 yX9_see ∈ qt := tn (tm3 (List.mem_of_getElem? (i := 128) rfl)) rfl
theorem tw_3_129 : Cond.instanceMethod yX9_see ∈ qt := tn (tm3 (List.mem_of_getElem? (i := 129) rfl)) rfl
theorem tw_3_130 : Cond.selects RX9 yX9_see yX9_see ∈ qt := tn (tm3 (List.mem_of_getElem? (i := 130) rfl)) rfl
theorem tw_3_131 : Cond.code yX9_see prog_1_method_29_code 6 (some .int) ∈ qt := tn (tm3 (List.mem_of_getElem? (i := 131) rfl)) rfl
theorem tw_3_132 : Cond.methodLink RX9 263 yX3_addSeen ∈ qt := tn (tm3 (List.mem_of_getElem? (i := 132) rfl)) rfl
theorem tw_3_133 : Cond.instanceMethod yX3_addSeen ∈ qt := tn (tm3 (List.mem_of_getElem? (i := 133) rfl)) rfl
theorem tw_3_134 : Cond.selects RX3 yX3_addSeen yX3_addSeen ∈ qt := tn (tm3 (List.mem_of_getElem? (i := 134) rfl)) rfl
theorem tw_3_135 : Cond.code yX3_addSeen prog_5_method_6_code 4 (some .boolean) ∈ qt := tn (tm3 (List.mem_of_getElem? (i := 135) rfl)) rfl
theorem tw_3_136 : Cond.methodLink RL 132 yX9_fits ∈ qt := tn (tm3 (List.mem_of_getElem? (i := 136) rfl)) rfl
theorem tw_3_137 : Cond.instanceMethod yX9_fits ∈ qt := tn (tm3 (List.mem_of_getElem? (i := 137) rfl)) rfl
theorem tw_3_138 : Cond.selects RX9 yX9_fits yX9_fits ∈ qt := tn (tm3 (List.mem_of_getElem? (i := 138) rfl)) rfl
theorem tw_3_139 : Cond.code yX9_fits prog_1_method_30_code 7 (some .int) ∈ qt := tn (tm3 (List.mem_of_getElem? (i := 139) rfl)) rfl
theorem tw_3_140 : Cond.methodLink RX9 266 yX3_allSeenCount ∈ qt := tn (tm3 (List.mem_of_getElem? (i := 140) rfl)) rfl
theorem tw_3_141 : Cond.instanceMethod yX3_allSeenCount ∈ qt := tn (tm3 (List.mem_of_getElem? (i := 141) rfl)) rfl
theorem tw_3_142 : Cond.selects RX3 yX3_allSeenCount yX3_allSeenCount ∈ qt := tn (tm3 (List.mem_of_getElem? (i := 142) rfl)) rfl
theorem tw_3_143 : Cond.code yX3_allSeenCount prog_5_method_7_code 2 (some .boolean) ∈ qt := tn (tm3 (List.mem_of_getElem? (i := 143) rfl)) rfl
theorem tw_3_144 : Cond.methodLink RX3 61 yX2_isOfKinds ∈ qt := tn (tm3 (List.mem_of_getElem? (i := 144) rfl)) rfl
theorem tw_3_145 : Cond.static yX2_isOfKinds ∈ qt := tn (tm3 (List.mem_of_getElem? (i := 145) rfl)) rfl
theorem tw_3_146 : Cond.code yX2_isOfKinds prog_4_method_11_code 4 (some .boolean) ∈ qt := tn (tm3 (List.mem_of_getElem? (i := 146) rfl)) rfl
theorem tw_3_147 : Cond.methodLink RX9 270 yX9_allIsAsSeen ∈ qt := tn (tm3 (List.mem_of_getElem? (i := 147) rfl)) rfl
theorem tw_3_149 : Cond.instanceMethod yX9_allIsAsSeen ∈ qt := tn (tm3 (List.mem_of_getElem? (i := 149) rfl)) rfl
theorem tw_3_150 : Cond.code yX9_allIsAsSeen prog_1_method_57_code 4 (some .boolean) ∈ qt := tn (tm3 (List.mem_of_getElem? (i := 150) rfl)) rfl
theorem tw_3_151 : Cond.methodLink RL 136 yX9_event ∈ qt := tn (tm3 (List.mem_of_getElem? (i := 151) rfl)) rfl
theorem tw_3_152 : Cond.instanceMethod yX9_event ∈ qt := tn (tm3 (List.mem_of_getElem? (i := 152) rfl)) rfl
theorem tw_3_153 : Cond.selects RX9 yX9_event yX9_event ∈ qt := tn (tm3 (List.mem_of_getElem? (i := 153) rfl)) rfl
theorem tw_3_154 : Cond.code yX9_event prog_1_method_31_code 4 (some .int) ∈ qt := tn (tm3 (List.mem_of_getElem? (i := 154) rfl)) rfl
theorem tw_3_155 : Cond.methodLink RX9 276 yX3_addEvent ∈ qt := tn (tm3 (List.mem_of_getElem? (i := 155) rfl)) rfl
theorem tw_3_156 : Cond.instanceMethod yX3_addEvent ∈ qt := tn (tm3 (List.mem_of_getElem? (i := 156) rfl)) rfl
theorem tw_3_157 : Cond.selects RX3 yX3_addEvent yX3_addEvent ∈ qt := tn (tm3 (List.mem_of_getElem? (i := 157) rfl)) rfl
theorem tw_3_158 : Cond.code yX3_addEvent prog_5_method_8_code 3 (some .boolean) ∈ qt := tn (tm3 (List.mem_of_getElem? (i := 158) rfl)) rfl
theorem tw_3_159 : Cond.methodLink RL 140 yX9_after ∈ qt := tn (tm3 (List.mem_of_getElem? (i := 159) rfl)) rfl
theorem tw_3_160 : Cond.instanceMethod yX9_after ∈ qt := tn (tm3 (List.mem_of_getElem? (i := 160) rfl)) rfl
theorem tw_3_161 : Cond.selects RX9 yX9_after yX9_after ∈ qt := tn (tm3 (List.mem_of_getElem? (i := 161) rfl)) rfl
theorem tw_3_162 : Cond.code yX9_after prog_1_method_32_code 4 (some .int) ∈ qt := tn (tm3 (List.mem_of_getElem? (i := 162) rfl)) rfl
theorem tw_3_163 : Cond.methodLink RL 144 yX9_judge ∈ qt := tn (tm3 (List.mem_of_getElem? (i := 163) rfl)) rfl
theorem tw_3_164 : Cond.instanceMethod yX9_judge ∈ qt := tn (tm3 (List.mem_of_getElem? (i := 164) rfl)) rfl
theorem tw_3_165 : Cond.selects RX9 yX9_judge yX9_judge ∈ qt := tn (tm3 (List.mem_of_getElem? (i := 165) rfl)) rfl
theorem tw_3_166 : Cond.code yX9_judge prog_1_method_33_code 7 (some .int) ∈ qt := tn (tm3 (List.mem_of_getElem? (i := 166) rfl)) rfl
theorem tw_3_167 : Cond.methodLink RX9 285 yX9_isTape ∈ qt := tn (tm3 (List.mem_of_getElem? (i := 167) rfl)) rfl
theorem tw_3_168 : Cond.static yX9_isTape ∈ qt := tn (tm3 (List.mem_of_getElem? (i := 168) rfl)) rfl
theorem tw_3_169 : Cond.code yX9_isTape prog_1_method_42_code 1 (some .boolean) ∈ qt := tn (tm3 (List.mem_of_getElem? (i := 169) rfl)) rfl
theorem tw_3_170 : Cond.methodLink RX9 288 yX6_holds ∈ qt := tn (tm3 (List.mem_of_getElem? (i := 170) rfl)) rfl
theorem tw_3_171 : Cond.instanceMethod yX6_holds ∈ qt := tn (tm3 (List.mem_of_getElem? (i := 171) rfl)) rfl
theorem tw_3_172 : Cond.selects RX6 yX6_holds yX6_holds ∈ qt := tn (tm3 (List.mem_of_getElem? (i := 172) rfl)) rfl
theorem tw_3_173 : Cond.code yX6_holds prog_8_method_2_code 1 (some .boolean) ∈ qt := tn (tm3 (List.mem_of_getElem? (i := 173) rfl)) rfl
theorem tw_3_174 : Cond.methodLink RL 148 yX9_image ∈ qt := tn (tm3 (List.mem_of_getElem? (i := 174) rfl)) rfl
theorem tw_3_175 : Cond.instanceMethod yX9_image ∈ qt := tn (tm3 (List.mem_of_getElem? (i := 175) rfl)) rfl
theorem tw_3_176 : Cond.selects RX9 yX9_image yX9_image ∈ qt := tn (tm3 (List.mem_of_getElem? (i := 176) rfl)) rfl
theorem tw_3_177 : Cond.code yX9_image prog_1_method_34_code 1 (some .int) ∈ qt := tn (tm3 (List.mem_of_getElem? (i := 177) rfl)) rfl
theorem tw_3_178 : Cond.methodLink RX9 298 yX3_become ∈ qt := tn (tm3 (List.mem_of_getElem? (i := 178) rfl)) rfl
theorem tw_3_179 : Cond.instanceMethod yX3_become ∈ qt := tn (tm3 (List.mem_of_getElem? (i := 179) rfl)) rfl
theorem tw_3_180 : Cond.selects RX3 yX3_become yX3_become ∈ qt := tn (tm3 (List.mem_of_getElem? (i := 180) rfl)) rfl
theorem tw_3_181 : Cond.code yX3_become prog_5_method_9_code 2 none ∈ qt := tn (tm3 (List.mem_of_getElem? (i := 181) rfl)) rfl
theorem tw_3_182 : Cond.methodLink RX3 68 (⟨"java/lang/System", "arraycopy", "(Ljava/lang/Object;ILjava/lang/Object;II)V"⟩ : MethodName) ∈ qt := tn (tm3 (List.mem_of_getElem? (i := 182) rfl)) rfl
theorem tw_3_183 : Cond.methodLink RL 152 yX9_undo ∈ qt := tn (tm3 (List.mem_of_getElem? (i := 183) rfl)) rfl
theorem tw_3_184 : Cond.instanceMethod yX9_undo ∈ qt := tn (tm3 (List.mem_of_getElem? (i := 184) rfl)) rfl
theorem tw_3_185 : Cond.selects RX9 yX9_undo yX9_undo ∈ qt := tn (tm3 (List.mem_of_getElem? (i := 185) rfl)) rfl
theorem tw_3_186 : Cond.code yX9_undo prog_1_method_35_code 1 (some .int) ∈ qt := tn (tm3 (List.mem_of_getElem? (i := 186) rfl)) rfl
theorem tw_3_187 : Cond.methodLink RL 156 yX9_count ∈ qt := tn (tm3 (List.mem_of_getElem? (i := 187) rfl)) rfl
theorem tw_3_188 : Cond.instanceMethod yX9_count ∈ qt := tn (tm3 (List.mem_of_getElem? (i := 188) rfl)) rfl
theorem tw_3_189 : Cond.selects RX9 yX9_count yX9_count ∈ qt := tn (tm3 (List.mem_of_getElem? (i := 189) rfl)) rfl
theorem tw_3_190 : Cond.code yX9_count prog_1_method_36_code 2 (some .int) ∈ qt := tn (tm3 (List.mem_of_getElem? (i := 190) rfl)) rfl
theorem tw_3_191 : Cond.methodLink RL 160 yX9_tape ∈ qt := tn (tm3 (List.mem_of_getElem? (i := 191) rfl)) rfl
theorem tw_3_192 : Cond.instanceMethod yX9_tape ∈ qt := tn (tm3 (List.mem_of_getElem? (i := 192) rfl)) rfl
theorem tw_3_193 : Cond.selects RX9 yX9_tape yX9_tape ∈ qt := tn (tm3 (List.mem_of_getElem? (i := 193) rfl)) rfl
theorem tw_3_194 : Cond.code yX9_tape prog_1_method_37_code 4 (some .int) ∈ qt := tn (tm3 (List.mem_of_getElem? (i := 194) rfl)) rfl
theorem tw_3_195 : Cond.methodLink RX9 306 yX6_hold ∈ qt := tn (tm3 (List.mem_of_getElem? (i := 195) rfl)) rfl
theorem tw_3_196 : Cond.instanceMethod yX6_hold ∈ qt := tn (tm3 (List.mem_of_getElem? (i := 196) rfl)) rfl
theorem tw_3_197 : Cond.selects RX6 yX6_hold yX6_hold ∈ qt := tn (tm3 (List.mem_of_getElem? (i := 197) rfl)) rfl
theorem tw_3_198 : Cond.code yX6_hold prog_8_method_3_code 4 none ∈ qt := tn (tm3 (List.mem_of_getElem? (i := 198) rfl)) rfl
theorem tw_3_199 : Cond.methodLink RL 166 yX9_item ∈ qt := tn (tm3 (List.mem_of_getElem? (i := 199) rfl)) rfl
theorem tw_3_200 : Cond.instanceMethod yX9_item ∈ qt := tn (tm3 (List.mem_of_getElem? (i := 200) rfl)) rfl
theorem tw_3_201 : Cond.selects RX9 yX9_item yX9_item ∈ qt := tn (tm3 (List.mem_of_getElem? (i := 201) rfl)) rfl
theorem tw_3_202 : Cond.code yX9_item prog_1_method_38_code 6 (some .int) ∈ qt := tn (tm3 (List.mem_of_getElem? (i := 202) rfl)) rfl
theorem tw_3_203 : Cond.methodLink RX9 309 yX6_cut ∈ qt := tn (tm3 (List.mem_of_getElem? (i := 203) rfl)) rfl
theorem tw_3_204 : Cond.instanceMethod yX6_cut ∈ qt := tn (tm3 (List.mem_of_getElem? (i := 204) rfl)) rfl
theorem tw_3_205 : Cond.selects RX6 yX6_cut yX6_cut ∈ qt := tn (tm3 (List.mem_of_getElem? (i := 205) rfl)) rfl
theorem tw_3_206 : Cond.code yX6_cut prog_8_method_5_code 3 (some .long) ∈ qt := tn (tm3 (List.mem_of_getElem? (i := 206) rfl)) rfl
theorem tw_3_207 : Cond.methodLink RL 171 yX9_peek ∈ qt := tn (tm3 (List.mem_of_getElem? (i := 207) rfl)) rfl
theorem tw_3_208 : Cond.instanceMethod yX9_peek ∈ qt := tn (tm3 (List.mem_of_getElem? (i := 208) rfl)) rfl
theorem tw_3_209 : Cond.selects RX9 yX9_peek yX9_peek ∈ qt := tn (tm3 (List.mem_of_getElem? (i := 209) rfl)) rfl
theorem tw_3_210 : Cond.code yX9_peek prog_1_method_39_code 4 (some .long) ∈ qt := tn (tm3 (List.mem_of_getElem? (i := 210) rfl)) rfl
theorem tw_3_211 : Cond.methodLink RL 175 yX9_shift ∈ qt := tn (tm3 (List.mem_of_getElem? (i := 211) rfl)) rfl
theorem tw_3_212 : Cond.instanceMethod yX9_shift ∈ qt := tn (tm3 (List.mem_of_getElem? (i := 212) rfl)) rfl
theorem tw_3_213 : Cond.selects RX9 yX9_shift yX9_shift ∈ qt := tn (tm3 (List.mem_of_getElem? (i := 213) rfl)) rfl
theorem tw_3_214 : Cond.code yX9_shift prog_1_method_40_code 8 (some .int) ∈ qt := tn (tm3 (List.mem_of_getElem? (i := 214) rfl)) rfl
theorem tw_3_215 : Cond.methodLink RX9 313 yX6_hasRoom ∈ qt := tn (tm3 (List.mem_of_getElem? (i := 215) rfl)) rfl
theorem tw_3_216 : Cond.instanceMethod yX6_hasRoom ∈ qt := tn (tm3 (List.mem_of_getElem? (i := 216) rfl)) rfl
theorem tw_3_217 : Cond.selects RX6 yX6_hasRoom yX6_hasRoom ∈ qt := tn (tm3 (List.mem_of_getElem? (i := 217) rfl)) rfl
theorem tw_3_218 : Cond.code yX6_hasRoom prog_8_method_4_code 3 (some .boolean) ∈ qt := tn (tm3 (List.mem_of_getElem? (i := 218) rfl)) rfl
theorem tw_3_219 : Cond.methodLink RX9 316 (⟨"java/lang/System", "arraycopy", "(Ljava/lang/Object;ILjava/lang/Object;II)V"⟩ : MethodName) ∈ qt := tn (tm3 (List.mem_of_getElem? (i := 219) rfl)) rfl
theorem tw_3_220 : Cond.classLink RL 10 "PaintFramesModel" ∈ qt := tn (tm3 (List.mem_of_getElem? (i := 220) rfl)) rfl
theorem tw_3_221 : Cond.instantiable RX10 31 ∈ qt := tn (tm3 (List.mem_of_getElem? (i := 221) rfl)) rfl
theorem tw_3_222 : Cond.methodLink RL 12 yX10_init ∈ qt := tn (tm3 (List.mem_of_getElem? (i := 222) rfl)) rfl
theorem tw_3_223 : Cond.instanceMethod yX10_init ∈ qt := tn (tm3 (List.mem_of_getElem? (i := 223) rfl)) rfl
theorem tw_3_224 : Cond.code yX10_init prog_12_method_4_code 2 none ∈ qt := tn (tm3 (List.mem_of_getElem? (i := 224) rfl)) rfl
theorem tw_3_225 : Cond.methodLink RX10 9 (⟨"java/lang/Object", "<init>", "()V"⟩ : MethodName) ∈ qt := tn (tm3 (List.mem_of_getElem? (i := 225) rfl)) rfl
theorem tw_3_226 : Cond.methodLink RX10 78 yX10_emptiesRacks ∈ qt := tn (tm3 (List.mem_of_getElem? (i := 226) rfl)) rfl
theorem tw_3_228 : Cond.instanceMethod yX10_emptiesRacks ∈ qt := tn (tm3 (List.mem_of_getElem? (i := 228) rfl)) rfl
theorem tw_3_229 : Cond.code yX10_emptiesRacks prog_12_method_5_code 2 none ∈ qt := tn (tm3 (List.mem_of_getElem? (i := 229) rfl)) rfl
theorem tw_3_230 : Cond.fieldLink RX10 15 "PaintFramesModel" "s" "[I" ∈ qt := tn (tm3 (List.mem_of_getElem? (i := 230) rfl)) rfl
theorem tw_3_231 : Cond.fieldLink RX10 19 "PaintFramesModel" "kept" "[I" ∈ qt := tn (tm3 (List.mem_of_getElem? (i := 231) rfl)) rfl
theorem tw_3_232 : Cond.fieldLink RX10 332 "PaintFramesModel" "isKept" "Z" ∈ qt := tn (tm3 (List.mem_of_getElem? (i := 232) rfl)) rfl
theorem tw_3_233 : Cond.fieldLink RX10 107 "PaintFramesModel" "moveMany" "I" ∈ qt := tn (tm3 (List.mem_of_getElem? (i := 233) rfl)) rfl
theorem tw_3_234 : Cond.fieldLink RX10 22 "PaintFramesModel" "moves" "[I" ∈ qt := tn (tm3 (List.mem_of_getElem? (i := 234) rfl)) rfl
theorem tw_3_235 : Cond.fieldLink RX10 25 "PaintFramesModel" "hands" "[I" ∈ qt := tn (tm3 (List.mem_of_getElem? (i := 235) rfl)) rfl
theorem tw_3_236 : Cond.fieldLink RX10 135 "PaintFramesModel" "troubles" "I" ∈ qt := tn (tm3 (List.mem_of_getElem? (i := 236) rfl)) rfl
theorem tw_3_237 : Cond.fieldLink RX10 28 "PaintFramesModel" "troubleSorts" "[I" ∈ qt := tn (tm3 (List.mem_of_getElem? (i := 237) rfl)) rfl
theorem tw_3_238 : Cond.fieldLink RX10 31 "PaintFramesModel" "troubleNumbers" "[I" ∈ qt := tn (tm3 (List.mem_of_getElem? (i := 238) rfl)) rfl
theorem tw_3_239 : Cond.fieldLink RX10 34 "PaintFramesModel" "asked" "[I" ∈ qt := tn (tm3 (List.mem_of_getElem? (i := 239) rfl)) rfl
theorem tw_4_0 : Cond.fieldLink RX10 37 "PaintFramesModel" "paint" "[I" ∈ qt := tn (tm4 (List.mem_of_getElem? (i := 0) rfl)) rfl
theorem tw_4_1 : Cond.fieldLink RX10 40 "PaintFramesModel" "leasts" "[I" ∈ qt := tn (tm4 (List.mem_of_getElem? (i := 1) rfl)) rfl
theorem tw_4_2 : Cond.fieldLink RX10 43 "PaintFramesModel" "isSeen" "[Z" ∈ qt := tn (tm4 (List.mem_of_getElem? (i := 2) rfl)) rfl
theorem tw_4_3 : Cond.fieldLink RX10 183 "PaintFramesModel" "classMany" "I" ∈ qt := tn (tm4 (List.mem_of_getElem? (i := 3) rfl)) rfl
theorem tw_4_4 : Cond.fieldLink RX10 47 "PaintFramesModel" "types" "[I" ∈ qt := tn (tm4 (List.mem_of_getElem? (i := 4) rfl)) rfl
theorem tw_4_5 : Cond.fieldLink RX10 50 "PaintFramesModel" "typeCounts" "[I" ∈ qt := tn (tm4 (List.mem_of_getElem? (i := 5) rfl)) rfl
theorem tw_4_6 : Cond.fieldLink RX10 216 "PaintFramesModel" "typeMany" "I" ∈ qt := tn (tm4 (List.mem_of_getElem? (i := 6) rfl)) rfl
theorem tw_4_7 : Cond.fieldLink RX10 53 "PaintFramesModel" "text" "[I" ∈ qt := tn (tm4 (List.mem_of_getElem? (i := 7) rfl)) rfl
theorem tw_4_8 : Cond.fieldLink RX10 267 "PaintFramesModel" "signs" "I" ∈ qt := tn (tm4 (List.mem_of_getElem? (i := 8) rfl)) rfl
theorem tw_4_9 : Cond.fieldLink RX10 270 "PaintFramesModel" "at" "I" ∈ qt := tn (tm4 (List.mem_of_getElem? (i := 9) rfl)) rfl
theorem tw_4_10 : Cond.fieldLink RX10 273 "PaintFramesModel" "lacks" "I" ∈ qt := tn (tm4 (List.mem_of_getElem? (i := 10) rfl)) rfl
theorem tw_4_11 : Cond.fieldLink RX10 289 "PaintFramesModel" "clauses" "I" ∈ qt := tn (tm4 (List.mem_of_getElem? (i := 11) rfl)) rfl
theorem tw_4_12 : Cond.fieldLink RX10 283 "PaintFramesModel" "begun" "I" ∈ qt := tn (tm4 (List.mem_of_getElem? (i := 12) rfl)) rfl
theorem tw_4_13 : Cond.fieldLink RX10 56 "PaintFramesModel" "letters" "[I" ∈ qt := tn (tm4 (List.mem_of_getElem? (i := 13) rfl)) rfl
theorem tw_4_14 : Cond.fieldLink RX10 59 "PaintFramesModel" "firsts" "[I" ∈ qt := tn (tm4 (List.mem_of_getElem? (i := 14) rfl)) rfl
theorem tw_4_15 : Cond.fieldLink RX10 62 "PaintFramesModel" "seconds" "[I" ∈ qt := tn (tm4 (List.mem_of_getElem? (i := 15) rfl)) rfl
theorem tw_4_16 : Cond.fieldLink RX10 65 "PaintFramesModel" "aside" "[I" ∈ qt := tn (tm4 (List.mem_of_getElem? (i := 16) rfl)) rfl
theorem tw_4_17 : Cond.fieldLink RX10 68 "PaintFramesModel" "sorts" "[I" ∈ qt := tn (tm4 (List.mem_of_getElem? (i := 17) rfl)) rfl
theorem tw_4_18 : Cond.fieldLink RX10 71 "PaintFramesModel" "sizes" "[I" ∈ qt := tn (tm4 (List.mem_of_getElem? (i := 18) rfl)) rfl
theorem tw_4_19 : Cond.fieldLink RX10 74 "PaintFramesModel" "items" "[J" ∈ qt := tn (tm4 (List.mem_of_getElem? (i := 19) rfl)) rfl
theorem tw_4_20 : Cond.lays RX10 "PaintFramesModel" "thrown" "I" ∈ qt := tn (tm4 (List.mem_of_getElem? (i := 20) rfl)) rfl
theorem tw_4_22 : Cond.laysFinal RX10 "PaintFramesModel" "s" "[I" ∈ qt := tn (tm4 (List.mem_of_getElem? (i := 22) rfl)) rfl
theorem tw_4_24 : Cond.laysFinal RX10 "PaintFramesModel" "kept" "[I" ∈ qt := tn (tm4 (List.mem_of_getElem? (i := 24) rfl)) rfl
theorem tw_4_26 : Cond.lays RX10 "PaintFramesModel" "isKept" "Z" ∈ qt := tn (tm4 (List.mem_of_getElem? (i := 26) rfl)) rfl
theorem tw_4_28 : Cond.lays RX10 "PaintFramesModel" "moveMany" "I" ∈ qt := tn (tm4 (List.mem_of_getElem? (i := 28) rfl)) rfl
theorem tw_4_30 : Cond.laysFinal RX10 "PaintFramesModel" "moves" "[I" ∈ qt := tn (tm4 (List.mem_of_getElem? (i := 30) rfl)) rfl
theorem tw_4_32 : Cond.laysFinal RX10 "PaintFramesModel" "hands" "[I" ∈ qt := tn (tm4 (List.mem_of_getElem? (i := 32) rfl)) rfl
theorem tw_4_34 : Cond.lays RX10 "PaintFramesModel" "troubles" "I" ∈ qt := tn (tm4 (List.mem_of_getElem? (i := 34) rfl)) rfl
theorem tw_4_36 : Cond.laysFinal RX10 "PaintFramesModel" "troubleSorts" "[I" ∈ qt := tn (tm4 (List.mem_of_getElem? (i := 36) rfl)) rfl
theorem tw_4_38 : Cond.laysFinal RX10 "PaintFramesModel" "troubleNumbers" "[I" ∈ qt := tn (tm4 (List.mem_of_getElem? (i := 38) rfl)) rfl
theorem tw_4_40 : Cond.laysFinal RX10 "PaintFramesModel" "asked" "[I" ∈ qt := tn (tm4 (List.mem_of_getElem? (i := 40) rfl)) rfl
theorem tw_4_42 : Cond.laysFinal RX10 "PaintFramesModel" "paint" "[I" ∈ qt := tn (tm4 (List.mem_of_getElem? (i := 42) rfl)) rfl
theorem tw_4_44 : Cond.laysFinal RX10 "PaintFramesModel" "leasts" "[I" ∈ qt := tn (tm4 (List.mem_of_getElem? (i := 44) rfl)) rfl
theorem tw_4_46 : Cond.laysFinal RX10 "PaintFramesModel" "isSeen" "[Z" ∈ qt := tn (tm4 (List.mem_of_getElem? (i := 46) rfl)) rfl
theorem tw_4_48 : Cond.lays RX10 "PaintFramesModel" "classMany" "I" ∈ qt := tn (tm4 (List.mem_of_getElem? (i := 48) rfl)) rfl
theorem tw_4_50 : Cond.laysFinal RX10 "PaintFramesModel" "types" "[I" ∈ qt := tn (tm4 (List.mem_of_getElem? (i := 50) rfl)) rfl
theorem tw_4_52 : Cond.laysFinal RX10 "PaintFramesModel" "typeCounts" "[I" ∈ qt := tn (tm4 (List.mem_of_getElem? (i := 52) rfl)) rfl
theorem tw_4_54 : Cond.lays RX10 "PaintFramesModel" "typeMany" "I" ∈ qt := tn (tm4 (List.mem_of_getElem? (i := 54) rfl)) rfl
theorem tw_4_56 : Cond.laysFinal RX10 "PaintFramesModel" "text" "[I" ∈ qt := tn (tm4 (List.mem_of_getElem? (i := 56) rfl)) rfl
theorem tw_4_58 : Cond.lays RX10 "PaintFramesModel" "signs" "I" ∈ qt := tn (tm4 (List.mem_of_getElem? (i := 58) rfl)) rfl
theorem tw_4_60 : Cond.lays RX10 "PaintFramesModel" "at" "I" ∈ qt := tn (tm4 (List.mem_of_getElem? (i := 60) rfl)) rfl
theorem tw_4_62 : Cond.lays RX10 "PaintFramesModel" "lacks" "I" ∈ qt := tn (tm4 (List.mem_of_getElem? (i := 62) rfl)) rfl
theorem tw_4_64 : Cond.lays RX10 "PaintFramesModel" "clauses" "I" ∈ qt := tn (tm4 (List.mem_of_getElem? (i := 64) rfl)) rfl
theorem tw_4_66 : Cond.lays RX10 "PaintFramesModel" "begun" "I" ∈ qt := tn (tm4 (List.mem_of_getElem? (i := 66) rfl)) rfl
theorem tw_4_68 : Cond.laysFinal RX10 "PaintFramesModel" "letters" "[I" ∈ qt := tn (tm4 (List.mem_of_getElem? (i := 68) rfl)) rfl
theorem tw_4_70 : Cond.laysFinal RX10 "PaintFramesModel" "firsts" "[I" ∈ qt := tn (tm4 (List.mem_of_getElem? (i := 70) rfl)) rfl
theorem tw_4_72 : Cond.laysFinal RX10 "PaintFramesModel" "seconds" "[I" ∈ qt := tn (tm4 (List.mem_of_getElem? (i := 72) rfl)) rfl
theorem tw_4_74 : Cond.laysFinal RX10 "PaintFramesModel" "aside" "[I" ∈ qt := tn (tm4 (List.mem_of_getElem? (i := 74) rfl)) rfl
theorem tw_4_76 : Cond.laysFinal RX10 "PaintFramesModel" "sorts" "[I" ∈ qt := tn (tm4 (List.mem_of_getElem? (i := 76) rfl)) rfl
theorem tw_4_78 : Cond.laysFinal RX10 "PaintFramesModel" "sizes" "[I" ∈ qt := tn (tm4 (List.mem_of_getElem? (i := 78) rfl)) rfl
theorem tw_4_80 : Cond.laysFinal RX10 "PaintFramesModel" "items" "[J" ∈ qt := tn (tm4 (List.mem_of_getElem? (i := 80) rfl)) rfl
theorem tw_4_83 : Cond.arrayClass .boolean ∈ qt := tn (tm4 (List.mem_of_getElem? (i := 83) rfl)) rfl
theorem tw_4_84 : Cond.methodLink RL 17 yX10_places ∈ qt := tn (tm4 (List.mem_of_getElem? (i := 84) rfl)) rfl
theorem tw_4_85 : Cond.instanceMethod yX10_places ∈ qt := tn (tm4 (List.mem_of_getElem? (i := 85) rfl)) rfl
theorem tw_4_86 : Cond.selects RX10 yX10_places yX10_places ∈ qt := tn (tm4 (List.mem_of_getElem? (i := 86) rfl)) rfl
theorem tw_4_87 : Cond.code yX10_places prog_12_method_7_code 3 (some .int) ∈ qt := tn (tm4 (List.mem_of_getElem? (i := 87) rfl)) rfl
theorem tw_4_88 : Cond.constantLong RX10 81 2 ∈ qt := tn (tm4 (List.mem_of_getElem? (i := 88) rfl)) rfl
theorem tw_4_89 : Cond.constantLong RX10 83 6 ∈ qt := tn (tm4 (List.mem_of_getElem? (i := 89) rfl)) rfl
theorem tw_4_90 : Cond.methodLink RX10 85 yX10_in ∈ qt := tn (tm4 (List.mem_of_getElem? (i := 90) rfl)) rfl
theorem tw_4_91 : Cond.static yX10_in ∈ qt := tn (tm4 (List.mem_of_getElem? (i := 91) rfl)) rfl
theorem tw_4_92 : Cond.code yX10_in prog_12_method_2_code 6 (some .boolean) ∈ qt := tn (tm4 (List.mem_of_getElem? (i := 92) rfl)) rfl
theorem tw_4_93 : Cond.methodLink RL 21 yX10_kinds ∈ qt := tn (tm4 (List.mem_of_getElem? (i := 93) rfl)) rfl
theorem tw_4_94 : Cond.instanceMethod yX10_kinds ∈ qt := tn (tm4 (List.mem_of_getElem? (i := 94) rfl)) rfl
theorem tw_4_95 : Cond.selects RX10 yX10_kinds yX10_kinds ∈ qt := tn (tm4 (List.mem_of_getElem? (i := 95) rfl)) rfl
theorem tw_4_96 : Cond.code yX10_kinds prog_12_method_8_code 3 (some .int) ∈ qt := tn (tm4 (List.mem_of_getElem? (i := 96) rfl)) rfl
theorem tw_4_97 : Cond.constantLong RX10 89 4 ∈ qt := tn (tm4 (List.mem_of_getElem? (i := 97) rfl)) rfl
theorem tw_4_98 : Cond.methodLink RL 26 yX10_weight ∈ qt := tn (tm4 (List.mem_of_getElem? (i := 98) rfl)) rfl
theorem tw_4_99 : Cond.instanceMethod yX10_weight ∈ qt := tn (tm4 (List.mem_of_getElem? (i := 99) rfl)) rfl
theorem tw_4_100 : Cond.selects RX10 yX10_weight yX10_weight ∈ qt := tn (tm4 (List.mem_of_getElem? (i := 100) rfl)) rfl
theorem tw_4_101 : Cond.code yX10_weight prog_12_method_9_code 4 (some .int) ∈ qt := tn (tm4 (List.mem_of_getElem? (i := 101) rfl)) rfl
theorem tw_4_102 : Cond.constantLong RX10 91 3 ∈ qt := tn (tm4 (List.mem_of_getElem? (i := 102) rfl)) rfl
theorem tw_4_103 : Cond.constantLong RX10 93 9 ∈ qt := tn (tm4 (List.mem_of_getElem? (i := 103) rfl)) rfl
theorem tw_4_104 : Cond.methodLink RL 30 yX10_generator ∈ qt := tn (tm4 (List.mem_of_getElem? (i := 104) rfl)) rfl
theorem tw_4_105 : Cond.instanceMethod yX10_generator ∈ qt := tn (tm4 (List.mem_of_getElem? (i := 105) rfl)) rfl
theorem tw_4_106 : Cond.selects RX10 yX10_generator yX10_generator ∈ qt := tn (tm4 (List.mem_of_getElem? (i := 106) rfl)) rfl
theorem tw_4_107 : Cond.code yX10_generator prog_12_method_25_code 6 (some .int) ∈ qt := tn (tm4 (List.mem_of_getElem? (i := 107) rfl)) rfl
theorem tw_4_108 : Cond.methodLink RX10 138 yX10_isRow ∈ qt := tn (tm4 (List.mem_of_getElem? (i := 108) rfl)) rfl
theorem tw_4_110 : Cond.instanceMethod yX10_isRow ∈ qt := tn (tm4 (List.mem_of_getElem? (i := 110) rfl)) rfl
theorem tw_4_111 : Cond.code yX10_isRow prog_12_method_23_code 6 (some .boolean) ∈ qt := tn (tm4 (List.mem_of_getElem? (i := 111) rfl)) rfl
theorem tw_4_112 : Cond.methodLink RX10 110 yX10_has ∈ qt := tn (tm4 (List.mem_of_getElem? (i := 112) rfl)) rfl
theorem tw_4_113 : Cond.static yX10_has ∈ qt := tn (tm4 (List.mem_of_getElem? (i := 113) rfl)) rfl
theorem tw_4_114 : Cond.code yX10_has prog_12_method_3_code 2 (some .boolean) ∈ qt := tn (tm4 (List.mem_of_getElem? (i := 114) rfl)) rfl
theorem tw_4_115 : Cond.methodLink RX10 126 yX10_allGenerators ∈ qt := tn (tm4 (List.mem_of_getElem? (i := 115) rfl)) rfl
theorem tw_4_117 : Cond.instanceMethod yX10_allGenerators ∈ qt := tn (tm4 (List.mem_of_getElem? (i := 117) rfl)) rfl
theorem tw_4_118 : Cond.code yX10_allGenerators prog_12_method_19_code 1 (some .int) ∈ qt := tn (tm4 (List.mem_of_getElem? (i := 118) rfl)) rfl
theorem tw_4_119 : Cond.methodLink RX10 130 yX10_moves ∈ qt := tn (tm4 (List.mem_of_getElem? (i := 119) rfl)) rfl
theorem tw_4_121 : Cond.instanceMethod yX10_moves ∈ qt := tn (tm4 (List.mem_of_getElem? (i := 121) rfl)) rfl
theorem tw_4_122 : Cond.code yX10_moves prog_12_method_16_code 4 (some .boolean) ∈ qt := tn (tm4 (List.mem_of_getElem? (i := 122) rfl)) rfl
theorem tw_4_123 : Cond.methodLink RX10 113 yX10_goesBehind ∈ qt := tn (tm4 (List.mem_of_getElem? (i := 123) rfl)) rfl
theorem tw_4_125 : Cond.instanceMethod yX10_goesBehind ∈ qt := tn (tm4 (List.mem_of_getElem? (i := 125) rfl)) rfl
theorem tw_4_126 : Cond.code yX10_goesBehind prog_12_method_15_code 4 none ∈ qt := tn (tm4 (List.mem_of_getElem? (i := 126) rfl)) rfl
theorem tw_4_127 : Cond.methodLink RX10 95 yX10_digit ∈ qt := tn (tm4 (List.mem_of_getElem? (i := 127) rfl)) rfl
theorem tw_4_129 : Cond.instanceMethod yX10_digit ∈ qt := tn (tm4 (List.mem_of_getElem? (i := 129) rfl)) rfl
theorem tw_4_130 : Cond.code yX10_digit prog_12_method_11_code 3 (some .int) ∈ qt := tn (tm4 (List.mem_of_getElem? (i := 130) rfl)) rfl
theorem tw_4_131 : Cond.methodLink RX10 117 yX10_isKnown ∈ qt := tn (tm4 (List.mem_of_getElem? (i := 131) rfl)) rfl
theorem tw_4_133 : Cond.instanceMethod yX10_isKnown ∈ qt := tn (tm4 (List.mem_of_getElem? (i := 133) rfl)) rfl
theorem tw_4_134 : Cond.code yX10_isKnown prog_12_method_14_code 3 (some .boolean) ∈ qt := tn (tm4 (List.mem_of_getElem? (i := 134) rfl)) rfl
theorem tw_4_135 : Cond.methodLink RX10 103 yX10_areAlike ∈ qt := tn (tm4 (List.mem_of_getElem? (i := 135) rfl)) rfl
theorem tw_4_137 : Cond.instanceMethod yX10_areAlike ∈ qt := tn (tm4 (List.mem_of_getElem? (i := 137) rfl)) rfl
theorem tw_4_138 : Cond.code yX10_areAlike prog_12_method_13_code 3 (some .boolean) ∈ qt := tn (tm4 (List.mem_of_getElem? (i := 138) rfl)) rfl
theorem tw_4_139 : Cond.methodLink RX10 99 yX10_numberOf ∈ qt := tn (tm4 (List.mem_of_getElem? (i := 139) rfl)) rfl
theorem tw_4_141 : Cond.instanceMethod yX10_numberOf ∈ qt := tn (tm4 (List.mem_of_getElem? (i := 141) rfl)) rfl
theorem tw_4_142 : Cond.code yX10_numberOf prog_12_method_12_code 4 (some .int) ∈ qt := tn (tm4 (List.mem_of_getElem? (i := 142) rfl)) rfl
theorem tw_4_143 : Cond.methodLink RX10 121 yX10_sorts ∈ qt := tn (tm4 (List.mem_of_getElem? (i := 143) rfl)) rfl
theorem tw_4_145 : Cond.instanceMethod yX10_sorts ∈ qt := tn (tm4 (List.mem_of_getElem? (i := 145) rfl)) rfl
theorem tw_4_146 : Cond.code yX10_sorts prog_12_method_18_code 5 none ∈ qt := tn (tm4 (List.mem_of_getElem? (i := 146) rfl)) rfl
theorem tw_4_147 : Cond.methodLink RX10 123 yX10_changePlaces ∈ qt := tn (tm4 (List.mem_of_getElem? (i := 147) rfl)) rfl
theorem tw_4_149 : Cond.instanceMethod yX10_changePlaces ∈ qt := tn (tm4 (List.mem_of_getElem? (i := 149) rfl)) rfl
theorem tw_4_150 : Cond.code yX10_changePlaces prog_12_method_17_code 5 none ∈ qt := tn (tm4 (List.mem_of_getElem? (i := 150) rfl)) rfl
theorem tw_4_151 : Cond.methodLink RX10 141 yX10_tells ∈ qt := tn (tm4 (List.mem_of_getElem? (i := 151) rfl)) rfl
theorem tw_4_153 : Cond.instanceMethod yX10_tells ∈ qt := tn (tm4 (List.mem_of_getElem? (i := 153) rfl)) rfl
theorem tw_4_154 : Cond.code yX10_tells prog_12_method_24_code 3 none ∈ qt := tn (tm4 (List.mem_of_getElem? (i := 154) rfl)) rfl
theorem tw_4_155 : Cond.methodLink RL 35 yX10_drop ∈ qt := tn (tm4 (List.mem_of_getElem? (i := 155) rfl)) rfl
theorem tw_4_156 : Cond.instanceMethod yX10_drop ∈ qt := tn (tm4 (List.mem_of_getElem? (i := 156) rfl)) rfl
theorem tw_4_157 : Cond.selects RX10 yX10_drop yX10_drop ∈ qt := tn (tm4 (List.mem_of_getElem? (i := 157) rfl)) rfl
theorem tw_4_158 : Cond.code yX10_drop prog_12_method_26_code 2 (some .int) ∈ qt := tn (tm4 (List.mem_of_getElem? (i := 158) rfl)) rfl
theorem tw_4_159 : Cond.methodLink RL 39 yX10_of ∈ qt := tn (tm4 (List.mem_of_getElem? (i := 159) rfl)) rfl
theorem tw_4_160 : Cond.instanceMethod yX10_of ∈ qt := tn (tm4 (List.mem_of_getElem? (i := 160) rfl)) rfl
theorem tw_4_161 : Cond.selects RX10 yX10_of yX10_of ∈ qt := tn (tm4 (List.mem_of_getElem? (i := 161) rfl)) rfl
theorem tw_4_162 : Cond.code yX10_of prog_12_method_31_code 4 (some .int) ∈ qt := tn (tm4 (List.mem_of_getElem? (i := 162) rfl)) rfl
theorem tw_4_163 : Cond.methodLink RX10 150 yX10_isGenerator ∈ qt := tn (tm4 (List.mem_of_getElem? (i := 163) rfl)) rfl
theorem tw_4_165 : Cond.instanceMethod yX10_isGenerator ∈ qt := tn (tm4 (List.mem_of_getElem? (i := 165) rfl)) rfl
theorem tw_4_166 : Cond.code yX10_isGenerator prog_12_method_10_code 2 (some .boolean) ∈ qt := tn (tm4 (List.mem_of_getElem? (i := 166) rfl)) rfl
theorem tw_4_167 : Cond.methodLink RX10 153 yX10_rowOf ∈ qt := tn (tm4 (List.mem_of_getElem? (i := 167) rfl)) rfl
theorem tw_4_169 : Cond.instanceMethod yX10_rowOf ∈ qt := tn (tm4 (List.mem_of_getElem? (i := 169) rfl)) rfl
theorem tw_4_170 : Cond.code yX10_rowOf prog_12_method_27_code 4 (some .int) ∈ qt := tn (tm4 (List.mem_of_getElem? (i := 170) rfl)) rfl
theorem tw_4_171 : Cond.methodLink RX10 147 yX10_typeAsked ∈ qt := tn (tm4 (List.mem_of_getElem? (i := 171) rfl)) rfl
theorem tw_4_173 : Cond.instanceMethod yX10_typeAsked ∈ qt := tn (tm4 (List.mem_of_getElem? (i := 173) rfl)) rfl
theorem tw_4_174 : Cond.code yX10_typeAsked prog_12_method_29_code 3 (some .int) ∈ qt := tn (tm4 (List.mem_of_getElem? (i := 174) rfl)) rfl
theorem tw_4_175 : Cond.methodLink RX10 144 yX10_cycles ∈ qt := tn (tm4 (List.mem_of_getElem? (i := 175) rfl)) rfl
theorem tw_4_177 : Cond.instanceMethod yX10_cycles ∈ qt := tn (tm4 (List.mem_of_getElem? (i := 177) rfl)) rfl
theorem tw_4_178 : Cond.code yX10_cycles prog_12_method_28_code 7 (some .int) ∈ qt := tn (tm4 (List.mem_of_getElem? (i := 178) rfl)) rfl
theorem tw_4_179 : Cond.methodLink RL 44 yX10_lay ∈ qt := tn (tm4 (List.mem_of_getElem? (i := 179) rfl)) rfl
theorem tw_4_180 : Cond.instanceMethod yX10_lay ∈ qt := tn (tm4 (List.mem_of_getElem? (i := 180) rfl)) rfl
theorem tw_4_181 : Cond.selects RX10 yX10_lay yX10_lay ∈ qt := tn (tm4 (List.mem_of_getElem? (i := 181) rfl)) rfl
theorem tw_4_182 : Cond.code yX10_lay prog_12_method_32_code 5 (some .int) ∈ qt := tn (tm4 (List.mem_of_getElem? (i := 182) rfl)) rfl
theorem tw_4_183 : Cond.methodLink RL 48 yX10_rack ∈ qt := tn (tm4 (List.mem_of_getElem? (i := 183) rfl)) rfl
theorem tw_4_184 : Cond.instanceMethod yX10_rack ∈ qt := tn (tm4 (List.mem_of_getElem? (i := 184) rfl)) rfl
theorem tw_4_185 : Cond.selects RX10 yX10_rack yX10_rack ∈ qt := tn (tm4 (List.mem_of_getElem? (i := 185) rfl)) rfl
theorem tw_4_186 : Cond.code yX10_rack prog_12_method_34_code 3 (some .int) ∈ qt := tn (tm4 (List.mem_of_getElem? (i := 186) rfl)) rfl
theorem tw_4_187 : Cond.constantLong RX10 156 10 ∈ qt := tn (tm4 (List.mem_of_getElem? (i := 187) rfl)) rfl
theorem tw_4_188 : Cond.constantLong RX10 158 12 ∈ qt := tn (tm4 (List.mem_of_getElem? (i := 188) rfl)) rfl
theorem tw_4_189 : Cond.methodLink RX10 160 yX10_product ∈ qt := tn (tm4 (List.mem_of_getElem? (i := 189) rfl)) rfl
theorem tw_4_191 : Cond.instanceMethod yX10_product ∈ qt := tn (tm4 (List.mem_of_getElem? (i := 191) rfl)) rfl
theorem tw_4_192 : Cond.code yX10_product prog_12_method_33_code 6 (some .int) ∈ qt := tn (tm4 (List.mem_of_getElem? (i := 192) rfl)) rfl
theorem tw_4_193 : Cond.methodLink RL 52 yX10_move ∈ qt := tn (tm4 (List.mem_of_getElem? (i := 193) rfl)) rfl
theorem tw_4_194 : Cond.instanceMethod yX10_move ∈ qt := tn (tm4 (List.mem_of_getElem? (i := 194) rfl)) rfl
theorem tw_4_195 : Cond.selects RX10 yX10_move yX10_move ∈ qt := tn (tm4 (List.mem_of_getElem? (i := 195) rfl)) rfl
theorem tw_4_196 : Cond.code yX10_move prog_12_method_35_code 3 (some .int) ∈ qt := tn (tm4 (List.mem_of_getElem? (i := 196) rfl)) rfl
theorem tw_4_197 : Cond.methodLink RX10 163 yX10_moves_ ∈ qt := tn (tm4 (List.mem_of_getElem? (i := 197) rfl)) rfl
theorem tw_4_199 : Cond.instanceMethod yX10_moves_ ∈ qt := tn (tm4 (List.mem_of_getElem? (i := 199) rfl)) rfl
theorem tw_4_200 : Cond.code yX10_moves_ prog_12_method_20_code 1 none ∈ qt := tn (tm4 (List.mem_of_getElem? (i := 200) rfl)) rfl
theorem tw_4_201 : Cond.methodLink RX10 165 yX10_typeOf ∈ qt := tn (tm4 (List.mem_of_getElem? (i := 201) rfl)) rfl
theorem tw_4_203 : Cond.instanceMethod yX10_typeOf ∈ qt := tn (tm4 (List.mem_of_getElem? (i := 203) rfl)) rfl
theorem tw_4_204 : Cond.code yX10_typeOf prog_12_method_30_code 3 (some .int) ∈ qt := tn (tm4 (List.mem_of_getElem? (i := 204) rfl)) rfl
theorem tw_4_205 : Cond.methodLink RL 56 yX10_told ∈ qt := tn (tm4 (List.mem_of_getElem? (i := 205) rfl)) rfl
theorem tw_4_206 : Cond.instanceMethod yX10_told ∈ qt := tn (tm4 (List.mem_of_getElem? (i := 206) rfl)) rfl
theorem tw_4_207 : Cond.selects RX10 yX10_told yX10_told ∈ qt := tn (tm4 (List.mem_of_getElem? (i := 207) rfl)) rfl
theorem tw_4_208 : Cond.code yX10_told prog_12_method_51_code 2 (some .int) ∈ qt := tn (tm4 (List.mem_of_getElem? (i := 208) rfl)) rfl
theorem tw_4_209 : Cond.methodLink RX10 180 yX10_manyOf ∈ qt := tn (tm4 (List.mem_of_getElem? (i := 209) rfl)) rfl
theorem tw_4_211 : Cond.instanceMethod yX10_manyOf ∈ qt := tn (tm4 (List.mem_of_getElem? (i := 211) rfl)) rfl
theorem tw_4_212 : Cond.code yX10_manyOf prog_12_method_22_code 4 (some .int) ∈ qt := tn (tm4 (List.mem_of_getElem? (i := 212) rfl)) rfl
theorem tw_4_213 : Cond.methodLink RX10 132 yX10_counts ∈ qt := tn (tm4 (List.mem_of_getElem? (i := 213) rfl)) rfl
theorem tw_4_215 : Cond.instanceMethod yX10_counts ∈ qt := tn (tm4 (List.mem_of_getElem? (i := 215) rfl)) rfl
theorem tw_4_216 : Cond.code yX10_counts prog_12_method_21_code 3 (some .boolean) ∈ qt := tn (tm4 (List.mem_of_getElem? (i := 216) rfl)) rfl
theorem tw_4_217 : Cond.methodLink RX10 186 yX10_paintings ∈ qt := tn (tm4 (List.mem_of_getElem? (i := 217) rfl)) rfl
theorem tw_4_219 : Cond.instanceMethod yX10_paintings ∈ qt := tn (tm4 (List.mem_of_getElem? (i := 219) rfl)) rfl
theorem tw_4_220 : Cond.code yX10_paintings prog_12_method_36_code 3 (some .int) ∈ qt := tn (tm4 (List.mem_of_getElem? (i := 220) rfl)) rfl
theorem tw_4_221 : Cond.methodLink RX10 210 yX10_classesBy ∈ qt := tn (tm4 (List.mem_of_getElem? (i := 221) rfl)) rfl
theorem tw_4_223 : Cond.instanceMethod yX10_classesBy ∈ qt := tn (tm4 (List.mem_of_getElem? (i := 223) rfl)) rfl
theorem tw_4_224 : Cond.code yX10_classesBy prog_12_method_50_code 2 (some .int) ∈ qt := tn (tm4 (List.mem_of_getElem? (i := 224) rfl)) rfl
theorem tw_4_225 : Cond.methodLink RX10 204 yX10_allClasses ∈ qt := tn (tm4 (List.mem_of_getElem? (i := 225) rfl)) rfl
theorem tw_4_227 : Cond.instanceMethod yX10_allClasses ∈ qt := tn (tm4 (List.mem_of_getElem? (i := 227) rfl)) rfl
theorem tw_4_228 : Cond.code yX10_allClasses prog_12_method_44_code 2 none ∈ qt := tn (tm4 (List.mem_of_getElem? (i := 228) rfl)) rfl
theorem tw_4_229 : Cond.methodLink RX10 189 yX10_classes ∈ qt := tn (tm4 (List.mem_of_getElem? (i := 229) rfl)) rfl
theorem tw_4_231 : Cond.instanceMethod yX10_classes ∈ qt := tn (tm4 (List.mem_of_getElem? (i := 231) rfl)) rfl
theorem tw_4_232 : Cond.code yX10_classes prog_12_method_43_code 5 none ∈ qt := tn (tm4 (List.mem_of_getElem? (i := 232) rfl)) rfl
theorem tw_4_233 : Cond.methodLink RX10 168 yX10_paints ∈ qt := tn (tm4 (List.mem_of_getElem? (i := 233) rfl)) rfl
theorem tw_4_235 : Cond.instanceMethod yX10_paints ∈ qt := tn (tm4 (List.mem_of_getElem? (i := 235) rfl)) rfl
theorem tw_4_236 : Cond.code yX10_paints prog_12_method_38_code 4 none ∈ qt := tn (tm4 (List.mem_of_getElem? (i := 236) rfl)) rfl
theorem tw_4_237 : Cond.methodLink RX10 172 yX10_becomes ∈ qt := tn (tm4 (List.mem_of_getElem? (i := 237) rfl)) rfl
theorem tw_4_239 : Cond.instanceMethod yX10_becomes ∈ qt := tn (tm4 (List.mem_of_getElem? (i := 239) rfl)) rfl
theorem tw_5_0 : Cond.code yX10_becomes prog_12_method_40_code 4 (some .int) ∈ qt := tn (tm5 (List.mem_of_getElem? (i := 0) rfl)) rfl
theorem tw_5_1 : Cond.methodLink RX10 213 yX10_pairs ∈ qt := tn (tm5 (List.mem_of_getElem? (i := 1) rfl)) rfl
theorem tw_5_3 : Cond.instanceMethod yX10_pairs ∈ qt := tn (tm5 (List.mem_of_getElem? (i := 3) rfl)) rfl
theorem tw_5_4 : Cond.code yX10_pairs prog_12_method_49_code 3 (some .int) ∈ qt := tn (tm5 (List.mem_of_getElem? (i := 4) rfl)) rfl
theorem tw_5_5 : Cond.methodLink RX10 207 yX10_isHanded ∈ qt := tn (tm5 (List.mem_of_getElem? (i := 5) rfl)) rfl
theorem tw_5_7 : Cond.instanceMethod yX10_isHanded ∈ qt := tn (tm5 (List.mem_of_getElem? (i := 7) rfl)) rfl
theorem tw_5_8 : Cond.code yX10_isHanded prog_12_method_48_code 2 (some .boolean) ∈ qt := tn (tm5 (List.mem_of_getElem? (i := 8) rfl)) rfl
theorem tw_5_9 : Cond.methodLink RX10 198 yX10_mirrors ∈ qt := tn (tm5 (List.mem_of_getElem? (i := 9) rfl)) rfl
theorem tw_5_11 : Cond.instanceMethod yX10_mirrors ∈ qt := tn (tm5 (List.mem_of_getElem? (i := 11) rfl)) rfl
theorem tw_5_12 : Cond.code yX10_mirrors prog_12_method_45_code 1 (some .int) ∈ qt := tn (tm5 (List.mem_of_getElem? (i := 12) rfl)) rfl
theorem tw_5_13 : Cond.methodLink RX10 201 yX10_otherHand ∈ qt := tn (tm5 (List.mem_of_getElem? (i := 13) rfl)) rfl
theorem tw_5_15 : Cond.instanceMethod yX10_otherHand ∈ qt := tn (tm5 (List.mem_of_getElem? (i := 15) rfl)) rfl
theorem tw_5_16 : Cond.code yX10_otherHand prog_12_method_47_code 2 (some .int) ∈ qt := tn (tm5 (List.mem_of_getElem? (i := 16) rfl)) rfl
theorem tw_5_17 : Cond.methodLink RX10 192 yX10_firstMirror ∈ qt := tn (tm5 (List.mem_of_getElem? (i := 17) rfl)) rfl
theorem tw_5_19 : Cond.instanceMethod yX10_firstMirror ∈ qt := tn (tm5 (List.mem_of_getElem? (i := 19) rfl)) rfl
theorem tw_5_20 : Cond.code yX10_firstMirror prog_12_method_46_code 2 (some .int) ∈ qt := tn (tm5 (List.mem_of_getElem? (i := 20) rfl)) rfl
theorem tw_5_21 : Cond.methodLink RX10 195 yX10_leastOf ∈ qt := tn (tm5 (List.mem_of_getElem? (i := 21) rfl)) rfl
theorem tw_5_23 : Cond.instanceMethod yX10_leastOf ∈ qt := tn (tm5 (List.mem_of_getElem? (i := 23) rfl)) rfl
theorem tw_5_24 : Cond.code yX10_leastOf prog_12_method_41_code 5 (some .int) ∈ qt := tn (tm5 (List.mem_of_getElem? (i := 24) rfl)) rfl
theorem tw_5_25 : Cond.methodLink RX10 175 yJ9_min_7cf53 ∈ qt := tn (tm5 (List.mem_of_getElem? (i := 25) rfl)) rfl
theorem tw_5_26 : Cond.static yJ9_min_7cf53 ∈ qt := tn (tm5 (List.mem_of_getElem? (i := 26) rfl)) rfl
theorem tw_5_27 : Cond.code yJ9_min_7cf53 prog_15_method_69_code 2 (some .int) ∈ qt := tn (tm5 (List.mem_of_getElem? (i := 27) rfl)) rfl
theorem tw_5_28 : Cond.methodLink RL 60 yX10_index ∈ qt := tn (tm5 (List.mem_of_getElem? (i := 28) rfl)) rfl
theorem tw_5_29 : Cond.instanceMethod yX10_index ∈ qt := tn (tm5 (List.mem_of_getElem? (i := 29) rfl)) rfl
theorem tw_5_30 : Cond.selects RX10 yX10_index yX10_index ∈ qt := tn (tm5 (List.mem_of_getElem? (i := 30) rfl)) rfl
theorem tw_5_31 : Cond.code yX10_index prog_12_method_55_code 4 (some .int) ∈ qt := tn (tm5 (List.mem_of_getElem? (i := 31) rfl)) rfl
theorem tw_5_32 : Cond.methodLink RX10 222 yX10_isBy ∈ qt := tn (tm5 (List.mem_of_getElem? (i := 32) rfl)) rfl
theorem tw_5_33 : Cond.static yX10_isBy ∈ qt := tn (tm5 (List.mem_of_getElem? (i := 33) rfl)) rfl
theorem tw_5_34 : Cond.code yX10_isBy prog_12_method_54_code 1 (some .boolean) ∈ qt := tn (tm5 (List.mem_of_getElem? (i := 34) rfl)) rfl
theorem tw_5_35 : Cond.methodLink RX10 225 yX10_indexes ∈ qt := tn (tm5 (List.mem_of_getElem? (i := 35) rfl)) rfl
theorem tw_5_37 : Cond.instanceMethod yX10_indexes ∈ qt := tn (tm5 (List.mem_of_getElem? (i := 37) rfl)) rfl
theorem tw_5_38 : Cond.code yX10_indexes prog_12_method_52_code 3 none ∈ qt := tn (tm5 (List.mem_of_getElem? (i := 38) rfl)) rfl
theorem tw_5_39 : Cond.methodLink RX10 219 yX10_comes ∈ qt := tn (tm5 (List.mem_of_getElem? (i := 39) rfl)) rfl
theorem tw_5_41 : Cond.instanceMethod yX10_comes ∈ qt := tn (tm5 (List.mem_of_getElem? (i := 41) rfl)) rfl
theorem tw_5_42 : Cond.code yX10_comes prog_12_method_53_code 4 none ∈ qt := tn (tm5 (List.mem_of_getElem? (i := 42) rfl)) rfl
theorem tw_5_43 : Cond.methodLink RL 65 yX10_part ∈ qt := tn (tm5 (List.mem_of_getElem? (i := 43) rfl)) rfl
theorem tw_5_44 : Cond.instanceMethod yX10_part ∈ qt := tn (tm5 (List.mem_of_getElem? (i := 44) rfl)) rfl
theorem tw_5_45 : Cond.selects RX10 yX10_part yX10_part ∈ qt := tn (tm5 (List.mem_of_getElem? (i := 45) rfl)) rfl
theorem tw_5_46 : Cond.code yX10_part prog_12_method_57_code 5 (some .long) ∈ qt := tn (tm5 (List.mem_of_getElem? (i := 46) rfl)) rfl
theorem tw_5_47 : Cond.constantLong RX10 228 (-9223372036854775808) ∈ qt := tn (tm5 (List.mem_of_getElem? (i := 47) rfl)) rfl
theorem tw_5_48 : Cond.methodLink RX10 230 yX10_common ∈ qt := tn (tm5 (List.mem_of_getElem? (i := 48) rfl)) rfl
theorem tw_5_49 : Cond.static yX10_common ∈ qt := tn (tm5 (List.mem_of_getElem? (i := 49) rfl)) rfl
theorem tw_5_50 : Cond.code yX10_common prog_12_method_56_code 5 (some .int) ∈ qt := tn (tm5 (List.mem_of_getElem? (i := 50) rfl)) rfl
theorem tw_5_51 : Cond.methodLink RL 70 yX10_many ∈ qt := tn (tm5 (List.mem_of_getElem? (i := 51) rfl)) rfl
theorem tw_5_52 : Cond.instanceMethod yX10_many ∈ qt := tn (tm5 (List.mem_of_getElem? (i := 52) rfl)) rfl
theorem tw_5_53 : Cond.selects RX10 yX10_many yX10_many ∈ qt := tn (tm5 (List.mem_of_getElem? (i := 53) rfl)) rfl
theorem tw_5_54 : Cond.code yX10_many prog_12_method_58_code 9 (some .long) ∈ qt := tn (tm5 (List.mem_of_getElem? (i := 54) rfl)) rfl
theorem tw_5_55 : Cond.methodLink RL 74 yX10_least ∈ qt := tn (tm5 (List.mem_of_getElem? (i := 55) rfl)) rfl
theorem tw_5_56 : Cond.instanceMethod yX10_least ∈ qt := tn (tm5 (List.mem_of_getElem? (i := 56) rfl)) rfl
theorem tw_5_57 : Cond.selects RX10 yX10_least yX10_least ∈ qt := tn (tm5 (List.mem_of_getElem? (i := 57) rfl)) rfl
theorem tw_5_58 : Cond.code yX10_least prog_12_method_59_code 4 (some .int) ∈ qt := tn (tm5 (List.mem_of_getElem? (i := 58) rfl)) rfl
theorem tw_5_59 : Cond.methodLink RX10 233 yX10_indexOf ∈ qt := tn (tm5 (List.mem_of_getElem? (i := 59) rfl)) rfl
theorem tw_5_61 : Cond.instanceMethod yX10_indexOf ∈ qt := tn (tm5 (List.mem_of_getElem? (i := 61) rfl)) rfl
theorem tw_5_62 : Cond.code yX10_indexOf prog_12_method_37_code 7 (some .int) ∈ qt := tn (tm5 (List.mem_of_getElem? (i := 62) rfl)) rfl
theorem tw_5_63 : Cond.methodLink RX10 236 yX10_tellsPainting ∈ qt := tn (tm5 (List.mem_of_getElem? (i := 63) rfl)) rfl
theorem tw_5_65 : Cond.instanceMethod yX10_tellsPainting ∈ qt := tn (tm5 (List.mem_of_getElem? (i := 65) rfl)) rfl
theorem tw_5_66 : Cond.code yX10_tellsPainting prog_12_method_39_code 4 (some .int) ∈ qt := tn (tm5 (List.mem_of_getElem? (i := 66) rfl)) rfl
theorem tw_5_67 : Cond.methodLink RL 78 yX10_size ∈ qt := tn (tm5 (List.mem_of_getElem? (i := 67) rfl)) rfl
theorem tw_5_68 : Cond.instanceMethod yX10_size ∈ qt := tn (tm5 (List.mem_of_getElem? (i := 68) rfl)) rfl
theorem tw_5_69 : Cond.selects RX10 yX10_size yX10_size ∈ qt := tn (tm5 (List.mem_of_getElem? (i := 69) rfl)) rfl
theorem tw_5_70 : Cond.code yX10_size prog_12_method_60_code 4 (some .int) ∈ qt := tn (tm5 (List.mem_of_getElem? (i := 70) rfl)) rfl
theorem tw_5_71 : Cond.methodLink RX10 239 yX10_sizeOf ∈ qt := tn (tm5 (List.mem_of_getElem? (i := 71) rfl)) rfl
theorem tw_5_73 : Cond.instanceMethod yX10_sizeOf ∈ qt := tn (tm5 (List.mem_of_getElem? (i := 73) rfl)) rfl
theorem tw_5_74 : Cond.code yX10_sizeOf prog_12_method_42_code 5 (some .int) ∈ qt := tn (tm5 (List.mem_of_getElem? (i := 74) rfl)) rfl
theorem tw_5_75 : Cond.methodLink RL 82 yX10_kindOf ∈ qt := tn (tm5 (List.mem_of_getElem? (i := 75) rfl)) rfl
theorem tw_5_76 : Cond.instanceMethod yX10_kindOf ∈ qt := tn (tm5 (List.mem_of_getElem? (i := 76) rfl)) rfl
theorem tw_5_77 : Cond.selects RX10 yX10_kindOf yX10_kindOf ∈ qt := tn (tm5 (List.mem_of_getElem? (i := 77) rfl)) rfl
theorem tw_5_78 : Cond.code yX10_kindOf prog_12_method_63_code 5 (some .int) ∈ qt := tn (tm5 (List.mem_of_getElem? (i := 78) rfl)) rfl
theorem tw_5_79 : Cond.methodLink RX10 242 yX10_heavyOf ∈ qt := tn (tm5 (List.mem_of_getElem? (i := 79) rfl)) rfl
theorem tw_5_81 : Cond.instanceMethod yX10_heavyOf ∈ qt := tn (tm5 (List.mem_of_getElem? (i := 81) rfl)) rfl
theorem tw_5_82 : Cond.code yX10_heavyOf prog_12_method_61_code 4 (some .int) ∈ qt := tn (tm5 (List.mem_of_getElem? (i := 82) rfl)) rfl
theorem tw_5_83 : Cond.methodLink RX10 245 yX10_useOf ∈ qt := tn (tm5 (List.mem_of_getElem? (i := 83) rfl)) rfl
theorem tw_5_85 : Cond.instanceMethod yX10_useOf ∈ qt := tn (tm5 (List.mem_of_getElem? (i := 85) rfl)) rfl
theorem tw_5_86 : Cond.code yX10_useOf prog_12_method_62_code 6 (some .int) ∈ qt := tn (tm5 (List.mem_of_getElem? (i := 86) rfl)) rfl
theorem tw_5_87 : Cond.methodLink RL 86 yX10_heavy ∈ qt := tn (tm5 (List.mem_of_getElem? (i := 87) rfl)) rfl
theorem tw_5_88 : Cond.instanceMethod yX10_heavy ∈ qt := tn (tm5 (List.mem_of_getElem? (i := 88) rfl)) rfl
theorem tw_5_89 : Cond.selects RX10 yX10_heavy yX10_heavy ∈ qt := tn (tm5 (List.mem_of_getElem? (i := 89) rfl)) rfl
theorem tw_5_90 : Cond.code yX10_heavy prog_12_method_64_code 5 (some .int) ∈ qt := tn (tm5 (List.mem_of_getElem? (i := 90) rfl)) rfl
theorem tw_5_91 : Cond.constantLong RX10 248 99 ∈ qt := tn (tm5 (List.mem_of_getElem? (i := 91) rfl)) rfl
theorem tw_5_92 : Cond.methodLink RL 90 yX10_use ∈ qt := tn (tm5 (List.mem_of_getElem? (i := 92) rfl)) rfl
theorem tw_5_93 : Cond.instanceMethod yX10_use ∈ qt := tn (tm5 (List.mem_of_getElem? (i := 93) rfl)) rfl
theorem tw_5_94 : Cond.selects RX10 yX10_use yX10_use ∈ qt := tn (tm5 (List.mem_of_getElem? (i := 94) rfl)) rfl
theorem tw_5_95 : Cond.code yX10_use prog_12_method_65_code 5 (some .int) ∈ qt := tn (tm5 (List.mem_of_getElem? (i := 95) rfl)) rfl
theorem tw_5_96 : Cond.constantLong RX10 250 9999 ∈ qt := tn (tm5 (List.mem_of_getElem? (i := 96) rfl)) rfl
theorem tw_5_97 : Cond.methodLink RL 94 yX10_same ∈ qt := tn (tm5 (List.mem_of_getElem? (i := 97) rfl)) rfl
theorem tw_5_98 : Cond.instanceMethod yX10_same ∈ qt := tn (tm5 (List.mem_of_getElem? (i := 98) rfl)) rfl
theorem tw_5_99 : Cond.selects RX10 yX10_same yX10_same ∈ qt := tn (tm5 (List.mem_of_getElem? (i := 99) rfl)) rfl
theorem tw_5_100 : Cond.code yX10_same prog_12_method_66_code 6 (some .int) ∈ qt := tn (tm5 (List.mem_of_getElem? (i := 100) rfl)) rfl
theorem tw_5_101 : Cond.methodLink RL 98 yX10_handed ∈ qt := tn (tm5 (List.mem_of_getElem? (i := 101) rfl)) rfl
theorem tw_5_102 : Cond.instanceMethod yX10_handed ∈ qt := tn (tm5 (List.mem_of_getElem? (i := 102) rfl)) rfl
theorem tw_5_103 : Cond.selects RX10 yX10_handed yX10_handed ∈ qt := tn (tm5 (List.mem_of_getElem? (i := 103) rfl)) rfl
theorem tw_5_104 : Cond.code yX10_handed prog_12_method_67_code 4 (some .int) ∈ qt := tn (tm5 (List.mem_of_getElem? (i := 104) rfl)) rfl
theorem tw_5_105 : Cond.methodLink RL 102 yX10_even ∈ qt := tn (tm5 (List.mem_of_getElem? (i := 105) rfl)) rfl
theorem tw_5_106 : Cond.instanceMethod yX10_even ∈ qt := tn (tm5 (List.mem_of_getElem? (i := 106) rfl)) rfl
theorem tw_5_107 : Cond.selects RX10 yX10_even yX10_even ∈ qt := tn (tm5 (List.mem_of_getElem? (i := 107) rfl)) rfl
theorem tw_5_108 : Cond.code yX10_even prog_12_method_68_code 2 (some .int) ∈ qt := tn (tm5 (List.mem_of_getElem? (i := 108) rfl)) rfl
theorem tw_5_109 : Cond.methodLink RX10 252 yJxf58ca_floatToIntBits_5c35a ∈ qt := tn (tm5 (List.mem_of_getElem? (i := 109) rfl)) rfl
theorem tw_5_110 : Cond.static yJxf58ca_floatToIntBits_5c35a ∈ qt := tn (tm5 (List.mem_of_getElem? (i := 110) rfl)) rfl
theorem tw_5_111 : Cond.code yJxf58ca_floatToIntBits_5c35a prog_14_method_24_code 1 (some .int) ∈ qt := tn (tm5 (List.mem_of_getElem? (i := 111) rfl)) rfl
theorem tw_5_112 : Cond.methodLink RJxf58ca 59 yJxf58ca_isNaN_12338 ∈ qt := tn (tm5 (List.mem_of_getElem? (i := 112) rfl)) rfl
theorem tw_5_113 : Cond.static yJxf58ca_isNaN_12338 ∈ qt := tn (tm5 (List.mem_of_getElem? (i := 113) rfl)) rfl
theorem tw_5_114 : Cond.code yJxf58ca_isNaN_12338 prog_14_method_6_code 1 (some .boolean) ∈ qt := tn (tm5 (List.mem_of_getElem? (i := 114) rfl)) rfl
theorem tw_5_115 : Cond.methodLink RJxf58ca 74 (⟨"java/lang/Float", "floatToRawIntBits", "(F)I"⟩ : MethodName) ∈ qt := tn (tm5 (List.mem_of_getElem? (i := 115) rfl)) rfl
theorem tw_5_116 : Cond.static (⟨"java/lang/Float", "floatToRawIntBits", "(F)I"⟩ : MethodName) ∈ qt := tn (tm5 (List.mem_of_getElem? (i := 116) rfl)) rfl
theorem tw_5_117 : Cond.native (⟨"java/lang/Float", "floatToRawIntBits", "(F)I"⟩ : MethodName) ∈ qt := tn (tm5 (List.mem_of_getElem? (i := 117) rfl)) rfl
theorem tw_5_118 : Cond.constant RJxf58ca 77 2143289344 ∈ qt := tn (tm5 (List.mem_of_getElem? (i := 118) rfl)) rfl
theorem tw_5_119 : Cond.methodLink RL 106 yX10_likely ∈ qt := tn (tm5 (List.mem_of_getElem? (i := 119) rfl)) rfl
theorem tw_5_120 : Cond.instanceMethod yX10_likely ∈ qt := tn (tm5 (List.mem_of_getElem? (i := 120) rfl)) rfl
theorem tw_5_121 : Cond.selects RX10 yX10_likely yX10_likely ∈ qt := tn (tm5 (List.mem_of_getElem? (i := 121) rfl)) rfl
theorem tw_5_122 : Cond.code yX10_likely prog_12_method_69_code 4 (some .long) ∈ qt := tn (tm5 (List.mem_of_getElem? (i := 122) rfl)) rfl
theorem tw_5_123 : Cond.methodLink RX10 258 yJxe99ae_doubleToLongBits_ccdee ∈ qt := tn (tm5 (List.mem_of_getElem? (i := 123) rfl)) rfl
theorem tw_5_124 : Cond.static yJxe99ae_doubleToLongBits_ccdee ∈ qt := tn (tm5 (List.mem_of_getElem? (i := 124) rfl)) rfl
theorem tw_5_125 : Cond.code yJxe99ae_doubleToLongBits_ccdee prog_13_method_23_code 2 (some .long) ∈ qt := tn (tm5 (List.mem_of_getElem? (i := 125) rfl)) rfl
theorem tw_5_126 : Cond.methodLink RJxe99ae 122 yJxe99ae_isNaN_b9ae7 ∈ qt := tn (tm5 (List.mem_of_getElem? (i := 126) rfl)) rfl
theorem tw_5_127 : Cond.static yJxe99ae_isNaN_b9ae7 ∈ qt := tn (tm5 (List.mem_of_getElem? (i := 127) rfl)) rfl
theorem tw_5_128 : Cond.code yJxe99ae_isNaN_b9ae7 prog_13_method_6_code 2 (some .boolean) ∈ qt := tn (tm5 (List.mem_of_getElem? (i := 128) rfl)) rfl
theorem tw_5_129 : Cond.methodLink RJxe99ae 134 (⟨"java/lang/Double", "doubleToRawLongBits", "(D)J"⟩ : MethodName) ∈ qt := tn (tm5 (List.mem_of_getElem? (i := 129) rfl)) rfl
theorem tw_5_130 : Cond.static (⟨"java/lang/Double", "doubleToRawLongBits", "(D)J"⟩ : MethodName) ∈ qt := tn (tm5 (List.mem_of_getElem? (i := 130) rfl)) rfl
theorem tw_5_131 : Cond.native (⟨"java/lang/Double", "doubleToRawLongBits", "(D)J"⟩ : MethodName) ∈ qt := tn (tm5 (List.mem_of_getElem? (i := 131) rfl)) rfl
theorem tw_5_132 : Cond.constantLong RJxe99ae 137 9221120237041090560 ∈ qt := tn (tm5 (List.mem_of_getElem? (i := 132) rfl)) rfl
theorem tw_5_133 : Cond.methodLink RL 110 yX10_mean ∈ qt := tn (tm5 (List.mem_of_getElem? (i := 133) rfl)) rfl
theorem tw_5_134 : Cond.instanceMethod yX10_mean ∈ qt := tn (tm5 (List.mem_of_getElem? (i := 134) rfl)) rfl
theorem tw_5_135 : Cond.selects RX10 yX10_mean yX10_mean ∈ qt := tn (tm5 (List.mem_of_getElem? (i := 135) rfl)) rfl
theorem tw_5_136 : Cond.code yX10_mean prog_12_method_70_code 5 (some .int) ∈ qt := tn (tm5 (List.mem_of_getElem? (i := 136) rfl)) rfl
theorem tw_5_137 : Cond.constantFloat RX10 264 1056964608 ∈ qt := tn (tm5 (List.mem_of_getElem? (i := 137) rfl)) rfl
theorem tw_5_138 : Cond.methodLink RL 114 yX10_spread ∈ qt := tn (tm5 (List.mem_of_getElem? (i := 138) rfl)) rfl
theorem tw_5_139 : Cond.instanceMethod yX10_spread ∈ qt := tn (tm5 (List.mem_of_getElem? (i := 139) rfl)) rfl
theorem tw_5_140 : Cond.selects RX10 yX10_spread yX10_spread ∈ qt := tn (tm5 (List.mem_of_getElem? (i := 140) rfl)) rfl
theorem tw_5_141 : Cond.code yX10_spread prog_12_method_71_code 11 (some .long) ∈ qt := tn (tm5 (List.mem_of_getElem? (i := 141) rfl)) rfl
theorem tw_5_142 : Cond.methodLink RL 118 yX10_feed ∈ qt := tn (tm5 (List.mem_of_getElem? (i := 142) rfl)) rfl
theorem tw_5_143 : Cond.instanceMethod yX10_feed ∈ qt := tn (tm5 (List.mem_of_getElem? (i := 143) rfl)) rfl
theorem tw_5_144 : Cond.selects RX10 yX10_feed yX10_feed ∈ qt := tn (tm5 (List.mem_of_getElem? (i := 144) rfl)) rfl
theorem tw_5_145 : Cond.code yX10_feed prog_12_method_72_code 2 (some .int) ∈ qt := tn (tm5 (List.mem_of_getElem? (i := 145) rfl)) rfl
theorem tw_5_146 : Cond.constantLong RX10 265 127 ∈ qt := tn (tm5 (List.mem_of_getElem? (i := 146) rfl)) rfl
theorem tw_5_147 : Cond.methodLink RL 122 yX10_read ∈ qt := tn (tm5 (List.mem_of_getElem? (i := 147) rfl)) rfl
theorem tw_5_148 : Cond.instanceMethod yX10_read ∈ qt := tn (tm5 (List.mem_of_getElem? (i := 148) rfl)) rfl
theorem tw_5_149 : Cond.selects RX10 yX10_read yX10_read ∈ qt := tn (tm5 (List.mem_of_getElem? (i := 149) rfl)) rfl
theorem tw_5_150 : Cond.code yX10_read prog_12_method_78_code 4 (some .int) ∈ qt := tn (tm5 (List.mem_of_getElem? (i := 150) rfl)) rfl
theorem tw_5_151 : Cond.methodLink RX10 304 yX10_clause ∈ qt := tn (tm5 (List.mem_of_getElem? (i := 151) rfl)) rfl
theorem tw_5_153 : Cond.instanceMethod yX10_clause ∈ qt := tn (tm5 (List.mem_of_getElem? (i := 153) rfl)) rfl
theorem tw_5_154 : Cond.code yX10_clause prog_12_method_75_code 4 none ∈ qt := tn (tm5 (List.mem_of_getElem? (i := 154) rfl)) rfl
theorem tw_5_155 : Cond.methodLink RX10 276 yX10_here ∈ qt := tn (tm5 (List.mem_of_getElem? (i := 155) rfl)) rfl
theorem tw_5_157 : Cond.instanceMethod yX10_here ∈ qt := tn (tm5 (List.mem_of_getElem? (i := 157) rfl)) rfl
theorem tw_5_158 : Cond.code yX10_here prog_12_method_73_code 1 (some .int) ∈ qt := tn (tm5 (List.mem_of_getElem? (i := 158) rfl)) rfl
theorem tw_5_159 : Cond.methodLink RX10 286 yX10_digits ∈ qt := tn (tm5 (List.mem_of_getElem? (i := 159) rfl)) rfl
theorem tw_5_161 : Cond.instanceMethod yX10_digits ∈ qt := tn (tm5 (List.mem_of_getElem? (i := 161) rfl)) rfl
theorem tw_5_162 : Cond.code yX10_digits prog_12_method_74_code 4 (some .int) ∈ qt := tn (tm5 (List.mem_of_getElem? (i := 162) rfl)) rfl
theorem tw_5_163 : Cond.constantLong RX10 279 48 ∈ qt := tn (tm5 (List.mem_of_getElem? (i := 163) rfl)) rfl
theorem tw_5_164 : Cond.constantLong RX10 281 57 ∈ qt := tn (tm5 (List.mem_of_getElem? (i := 164) rfl)) rfl
theorem tw_5_165 : Cond.methodLink RX10 307 yX10_troubled ∈ qt := tn (tm5 (List.mem_of_getElem? (i := 165) rfl)) rfl
theorem tw_5_167 : Cond.instanceMethod yX10_troubled ∈ qt := tn (tm5 (List.mem_of_getElem? (i := 167) rfl)) rfl
theorem tw_5_168 : Cond.code yX10_troubled prog_12_method_77_code 2 none ∈ qt := tn (tm5 (List.mem_of_getElem? (i := 168) rfl)) rfl
theorem tw_5_169 : Cond.methodLink RX10 311 yX10_isDone ∈ qt := tn (tm5 (List.mem_of_getElem? (i := 169) rfl)) rfl
theorem tw_5_171 : Cond.instanceMethod yX10_isDone ∈ qt := tn (tm5 (List.mem_of_getElem? (i := 171) rfl)) rfl
theorem tw_5_172 : Cond.code yX10_isDone prog_12_method_76_code 3 (some .boolean) ∈ qt := tn (tm5 (List.mem_of_getElem? (i := 172) rfl)) rfl
theorem tw_5_173 : Cond.methodLink RX10 292 yX10_places ∈ qt := tn (tm5 (List.mem_of_getElem? (i := 173) rfl)) rfl
theorem tw_5_174 : Cond.methodLink RX10 295 yX10_kinds ∈ qt := tn (tm5 (List.mem_of_getElem? (i := 174) rfl)) rfl
theorem tw_5_175 : Cond.methodLink RX10 298 yX10_weight ∈ qt := tn (tm5 (List.mem_of_getElem? (i := 175) rfl)) rfl
theorem tw_5_176 : Cond.methodLink RX10 301 yX10_generator ∈ qt := tn (tm5 (List.mem_of_getElem? (i := 176) rfl)) rfl
theorem tw_5_177 : Cond.methodLink RL 126 yX10_cause ∈ qt := tn (tm5 (List.mem_of_getElem? (i := 177) rfl)) rfl
theorem tw_5_178 : Cond.instanceMethod yX10_cause ∈ qt := tn (tm5 (List.mem_of_getElem? (i := 178) rfl)) rfl
theorem tw_5_179 : Cond.selects RX10 yX10_cause yX10_cause ∈ qt := tn (tm5 (List.mem_of_getElem? (i := 179) rfl)) rfl
theorem tw_5_180 : Cond.code yX10_cause prog_12_method_79_code 3 (some .int) ∈ qt := tn (tm5 (List.mem_of_getElem? (i := 180) rfl)) rfl
theorem tw_5_181 : Cond.methodLink RL 131 yX10_see ∈ qt := tn (tm5 (List.mem_of_getElem? (i := 181) rfl)) rfl
theorem tw_5_182 : Cond.instanceMethod yX10_see ∈ qt := tn (tm5 (List.mem_of_getElem? (i := 182) rfl)) rfl
theorem tw_5_183 : Cond.selects RX10 yX10_see yX10_see ∈ qt := tn (tm5 (List.mem_of_getElem? (i := 183) rfl)) rfl
theorem tw_5_184 : Cond.code yX10_see prog_12_method_80_code 5 (some .int) ∈ qt := tn (tm5 (List.mem_of_getElem? (i := 184) rfl)) rfl
theorem tw_5_185 : Cond.methodLink RL 135 yX10_fits ∈ qt := tn (tm5 (List.mem_of_getElem? (i := 185) rfl)) rfl
theorem tw_5_186 : Cond.instanceMethod yX10_fits ∈ qt := tn (tm5 (List.mem_of_getElem? (i := 186) rfl)) rfl
theorem tw_5_187 : Cond.selects RX10 yX10_fits yX10_fits ∈ qt := tn (tm5 (List.mem_of_getElem? (i := 187) rfl)) rfl
theorem tw_5_188 : Cond.code yX10_fits prog_12_method_83_code 5 (some .int) ∈ qt := tn (tm5 (List.mem_of_getElem? (i := 188) rfl)) rfl
theorem tw_5_189 : Cond.methodLink RX10 317 yX10_isAllSo ∈ qt := tn (tm5 (List.mem_of_getElem? (i := 189) rfl)) rfl
theorem tw_5_191 : Cond.instanceMethod yX10_isAllSo ∈ qt := tn (tm5 (List.mem_of_getElem? (i := 191) rfl)) rfl
theorem tw_5_192 : Cond.code yX10_isAllSo prog_12_method_82_code 2 (some .boolean) ∈ qt := tn (tm5 (List.mem_of_getElem? (i := 192) rfl)) rfl
theorem tw_5_193 : Cond.methodLink RX10 314 yX10_isSo ∈ qt := tn (tm5 (List.mem_of_getElem? (i := 193) rfl)) rfl
theorem tw_5_195 : Cond.instanceMethod yX10_isSo ∈ qt := tn (tm5 (List.mem_of_getElem? (i := 195) rfl)) rfl
theorem tw_5_196 : Cond.code yX10_isSo prog_12_method_81_code 5 (some .boolean) ∈ qt := tn (tm5 (List.mem_of_getElem? (i := 196) rfl)) rfl
theorem tw_5_197 : Cond.methodLink RL 139 yX10_event ∈ qt := tn (tm5 (List.mem_of_getElem? (i := 197) rfl)) rfl
theorem tw_5_198 : Cond.instanceMethod yX10_event ∈ qt := tn (tm5 (List.mem_of_getElem? (i := 198) rfl)) rfl
theorem tw_5_199 : Cond.selects RX10 yX10_event yX10_event ∈ qt := tn (tm5 (List.mem_of_getElem? (i := 199) rfl)) rfl
theorem tw_5_200 : Cond.code yX10_event prog_12_method_84_code 3 (some .int) ∈ qt := tn (tm5 (List.mem_of_getElem? (i := 200) rfl)) rfl
theorem tw_5_201 : Cond.methodLink RL 143 yX10_after ∈ qt := tn (tm5 (List.mem_of_getElem? (i := 201) rfl)) rfl
theorem tw_5_202 : Cond.instanceMethod yX10_after ∈ qt := tn (tm5 (List.mem_of_getElem? (i := 202) rfl)) rfl
theorem tw_5_203 : Cond.selects RX10 yX10_after yX10_after ∈ qt := tn (tm5 (List.mem_of_getElem? (i := 203) rfl)) rfl
theorem tw_5_204 : Cond.code yX10_after prog_12_method_86_code 3 (some .int) ∈ qt := tn (tm5 (List.mem_of_getElem? (i := 204) rfl)) rfl
theorem tw_5_205 : Cond.methodLink RX10 321 yX10_copies ∈ qt := tn (tm5 (List.mem_of_getElem? (i := 205) rfl)) rfl
theorem tw_5_206 : Cond.static yX10_copies ∈ qt := tn (tm5 (List.mem_of_getElem? (i := 206) rfl)) rfl
theorem tw_5_207 : Cond.code yX10_copies prog_12_method_6_code 3 none ∈ qt := tn (tm5 (List.mem_of_getElem? (i := 207) rfl)) rfl
theorem tw_5_208 : Cond.methodLink RX10 325 yX10_happens ∈ qt := tn (tm5 (List.mem_of_getElem? (i := 208) rfl)) rfl
theorem tw_5_210 : Cond.instanceMethod yX10_happens ∈ qt := tn (tm5 (List.mem_of_getElem? (i := 210) rfl)) rfl
theorem tw_5_211 : Cond.code yX10_happens prog_12_method_85_code 4 (some .int) ∈ qt := tn (tm5 (List.mem_of_getElem? (i := 211) rfl)) rfl
theorem tw_5_212 : Cond.methodLink RL 147 yX10_judge ∈ qt := tn (tm5 (List.mem_of_getElem? (i := 212) rfl)) rfl
theorem tw_5_213 : Cond.instanceMethod yX10_judge ∈ qt := tn (tm5 (List.mem_of_getElem? (i := 213) rfl)) rfl
theorem tw_5_214 : Cond.selects RX10 yX10_judge yX10_judge ∈ qt := tn (tm5 (List.mem_of_getElem? (i := 214) rfl)) rfl
theorem tw_5_215 : Cond.code yX10_judge prog_12_method_87_code 5 (some .int) ∈ qt := tn (tm5 (List.mem_of_getElem? (i := 215) rfl)) rfl
theorem tw_5_216 : Cond.methodLink RX10 329 yX10_isTape ∈ qt := tn (tm5 (List.mem_of_getElem? (i := 216) rfl)) rfl
theorem tw_5_217 : Cond.static yX10_isTape ∈ qt := tn (tm5 (List.mem_of_getElem? (i := 217) rfl)) rfl
theorem tw_5_218 : Cond.code yX10_isTape prog_12_method_92_code 1 (some .boolean) ∈ qt := tn (tm5 (List.mem_of_getElem? (i := 218) rfl)) rfl
theorem tw_5_219 : Cond.constantLong RX10 339 5 ∈ qt := tn (tm5 (List.mem_of_getElem? (i := 219) rfl)) rfl
theorem tw_5_220 : Cond.methodLink RL 151 yX10_image ∈ qt := tn (tm5 (List.mem_of_getElem? (i := 220) rfl)) rfl
theorem tw_5_221 : Cond.instanceMethod yX10_image ∈ qt := tn (tm5 (List.mem_of_getElem? (i := 221) rfl)) rfl
theorem tw_5_222 : Cond.selects RX10 yX10_image yX10_image ∈ qt := tn (tm5 (List.mem_of_getElem? (i := 222) rfl)) rfl
theorem tw_5_223 : Cond.code yX10_image prog_12_method_89_code 1 (some .int) ∈ qt := tn (tm5 (List.mem_of_getElem? (i := 223) rfl)) rfl
theorem tw_5_224 : Cond.methodLink RX10 336 yX10_moveCount ∈ qt := tn (tm5 (List.mem_of_getElem? (i := 224) rfl)) rfl
theorem tw_5_226 : Cond.instanceMethod yX10_moveCount ∈ qt := tn (tm5 (List.mem_of_getElem? (i := 226) rfl)) rfl
theorem tw_5_227 : Cond.code yX10_moveCount prog_12_method_88_code 1 (some .int) ∈ qt := tn (tm5 (List.mem_of_getElem? (i := 227) rfl)) rfl
theorem tw_5_228 : Cond.methodLink RL 155 yX10_undo ∈ qt := tn (tm5 (List.mem_of_getElem? (i := 228) rfl)) rfl
theorem tw_5_229 : Cond.instanceMethod yX10_undo ∈ qt := tn (tm5 (List.mem_of_getElem? (i := 229) rfl)) rfl
theorem tw_5_230 : Cond.selects RX10 yX10_undo yX10_undo ∈ qt := tn (tm5 (List.mem_of_getElem? (i := 230) rfl)) rfl
theorem tw_5_231 : Cond.code yX10_undo prog_12_method_90_code 1 (some .int) ∈ qt := tn (tm5 (List.mem_of_getElem? (i := 231) rfl)) rfl
theorem tw_5_232 : Cond.methodLink RL 159 yX10_count ∈ qt := tn (tm5 (List.mem_of_getElem? (i := 232) rfl)) rfl
theorem tw_5_233 : Cond.instanceMethod yX10_count ∈ qt := tn (tm5 (List.mem_of_getElem? (i := 233) rfl)) rfl
theorem tw_5_234 : Cond.selects RX10 yX10_count yX10_count ∈ qt := tn (tm5 (List.mem_of_getElem? (i := 234) rfl)) rfl
theorem tw_5_235 : Cond.code yX10_count prog_12_method_91_code 2 (some .int) ∈ qt := tn (tm5 (List.mem_of_getElem? (i := 235) rfl)) rfl
theorem tw_5_236 : Cond.methodLink RL 163 yX10_tape ∈ qt := tn (tm5 (List.mem_of_getElem? (i := 236) rfl)) rfl
theorem tw_5_237 : Cond.instanceMethod yX10_tape ∈ qt := tn (tm5 (List.mem_of_getElem? (i := 237) rfl)) rfl
theorem tw_5_238 : Cond.selects RX10 yX10_tape yX10_tape ∈ qt := tn (tm5 (List.mem_of_getElem? (i := 238) rfl)) rfl
theorem tw_5_239 : Cond.code yX10_tape prog_12_method_93_code 5 (some .int) ∈ qt := tn (tm5 (List.mem_of_getElem? (i := 239) rfl)) rfl
theorem tw_6_0 : Cond.constantLong RX10 341 (-1) ∈ qt := tn (tm6 (List.mem_of_getElem? (i := 0) rfl)) rfl
theorem tw_6_1 : Cond.methodLink RL 170 yX10_item ∈ qt := tn (tm6 (List.mem_of_getElem? (i := 1) rfl)) rfl
theorem tw_6_2 : Cond.instanceMethod yX10_item ∈ qt := tn (tm6 (List.mem_of_getElem? (i := 2) rfl)) rfl
theorem tw_6_3 : Cond.selects RX10 yX10_item yX10_item ∈ qt := tn (tm6 (List.mem_of_getElem? (i := 3) rfl)) rfl
theorem tw_6_4 : Cond.code yX10_item prog_12_method_94_code 6 (some .int) ∈ qt := tn (tm6 (List.mem_of_getElem? (i := 4) rfl)) rfl
theorem tw_6_5 : Cond.methodLink RL 174 yX10_peek ∈ qt := tn (tm6 (List.mem_of_getElem? (i := 5) rfl)) rfl
theorem tw_6_6 : Cond.instanceMethod yX10_peek ∈ qt := tn (tm6 (List.mem_of_getElem? (i := 6) rfl)) rfl
theorem tw_6_7 : Cond.selects RX10 yX10_peek yX10_peek ∈ qt := tn (tm6 (List.mem_of_getElem? (i := 7) rfl)) rfl
theorem tw_6_8 : Cond.code yX10_peek prog_12_method_95_code 3 (some .long) ∈ qt := tn (tm6 (List.mem_of_getElem? (i := 8) rfl)) rfl
theorem tw_6_9 : Cond.methodLink RL 179 yX10_shift ∈ qt := tn (tm6 (List.mem_of_getElem? (i := 9) rfl)) rfl
theorem tw_6_10 : Cond.instanceMethod yX10_shift ∈ qt := tn (tm6 (List.mem_of_getElem? (i := 10) rfl)) rfl
theorem tw_6_11 : Cond.selects RX10 yX10_shift yX10_shift ∈ qt := tn (tm6 (List.mem_of_getElem? (i := 11) rfl)) rfl
theorem tw_6_12 : Cond.code yX10_shift prog_12_method_96_code 9 (some .int) ∈ qt := tn (tm6 (List.mem_of_getElem? (i := 12) rfl)) rfl
theorem tw_6_13 : Cond.constantLong RL 164 4294967295 ∈ qt := tn (tm6 (List.mem_of_getElem? (i := 13) rfl)) rfl
theorem ts_0 : Cond.selects RX5 yX5_admit yX5_admit ∈ qt := tn (List.mem_append_left _ (List.mem_of_getElem? (i := 0) rfl)) rfl
theorem ts_1 : Cond.selects RX5 yX5_placeOf yX5_placeOf ∈ qt := tn (List.mem_append_left _ (List.mem_of_getElem? (i := 1) rfl)) rfl
theorem ts_2 : Cond.selects RX9 yX9_forgetClasses yX9_forgetClasses ∈ qt := tn (List.mem_append_left _ (List.mem_of_getElem? (i := 2) rfl)) rfl
theorem ts_3 : Cond.selects RX9 yX9_growMoves yX9_growMoves ∈ qt := tn (List.mem_append_left _ (List.mem_of_getElem? (i := 3) rfl)) rfl
theorem ts_4 : Cond.selects RX9 yX9_isGenerator yX9_isGenerator ∈ qt := tn (List.mem_append_left _ (List.mem_of_getElem? (i := 4) rfl)) rfl
theorem ts_5 : Cond.selects RX9 yX9_tellMove yX9_tellMove ∈ qt := tn (List.mem_append_left _ (List.mem_of_getElem? (i := 5) rfl)) rfl
theorem ts_6 : Cond.selects RX9 yX9_productOf yX9_productOf ∈ qt := tn (List.mem_append_left _ (List.mem_of_getElem? (i := 6) rfl)) rfl
theorem ts_7 : Cond.selects RX9 yX9_paintings yX9_paintings ∈ qt := tn (List.mem_append_left _ (List.mem_of_getElem? (i := 7) rfl)) rfl
theorem ts_8 : Cond.selects RX9 yX9_howManyClasses yX9_howManyClasses ∈ qt := tn (List.mem_append_left _ (List.mem_of_getElem? (i := 8) rfl)) rfl
theorem ts_9 : Cond.selects RX4 yX4_add yX4_add ∈ qt := tn (List.mem_append_left _ (List.mem_of_getElem? (i := 9) rfl)) rfl
theorem ts_10 : Cond.selects RX9 yX9_packedPainting yX9_packedPainting ∈ qt := tn (List.mem_append_left _ (List.mem_of_getElem? (i := 10) rfl)) rfl
theorem ts_11 : Cond.selects RX9 yX9_paintingNumber yX9_paintingNumber ∈ qt := tn (List.mem_append_left _ (List.mem_of_getElem? (i := 11) rfl)) rfl
theorem ts_12 : Cond.selects RX9 yX9_classesBy yX9_classesBy ∈ qt := tn (List.mem_append_left _ (List.mem_of_getElem? (i := 12) rfl)) rfl
theorem ts_13 : Cond.selects RX7 yX7_afterDigits yX7_afterDigits ∈ qt := tn (List.mem_append_left _ (List.mem_of_getElem? (i := 13) rfl)) rfl
theorem ts_14 : Cond.selects RX7 yX7_signAt yX7_signAt ∈ qt := tn (List.mem_append_left _ (List.mem_of_getElem? (i := 14) rfl)) rfl
theorem ts_15 : Cond.selects RX7 yX7_isDigitAt yX7_isDigitAt ∈ qt := tn (List.mem_append_left _ (List.mem_of_getElem? (i := 15) rfl)) rfl
theorem ts_16 : Cond.selects RX9 yX9_doClause yX9_doClause ∈ qt := tn (List.mem_append_left _ (List.mem_of_getElem? (i := 16) rfl)) rfl
theorem ts_17 : Cond.selects RX9 yX9_allIsAsSeen yX9_allIsAsSeen ∈ qt := tn (List.mem_append_left _ (List.mem_of_getElem? (i := 17) rfl)) rfl
theorem ts_18 : Cond.selects RX10 yX10_emptiesRacks yX10_emptiesRacks ∈ qt := tn (List.mem_append_left _ (List.mem_of_getElem? (i := 18) rfl)) rfl
theorem ts_19 : Cond.selects RX10 yX10_isRow yX10_isRow ∈ qt := tn (List.mem_append_left _ (List.mem_of_getElem? (i := 19) rfl)) rfl
theorem ts_20 : Cond.selects RX10 yX10_allGenerators yX10_allGenerators ∈ qt := tn (List.mem_append_left _ (List.mem_of_getElem? (i := 20) rfl)) rfl
theorem ts_21 : Cond.selects RX10 yX10_moves yX10_moves ∈ qt := tn (List.mem_append_left _ (List.mem_of_getElem? (i := 21) rfl)) rfl
theorem ts_22 : Cond.selects RX10 yX10_goesBehind yX10_goesBehind ∈ qt := tn (List.mem_append_left _ (List.mem_of_getElem? (i := 22) rfl)) rfl
theorem ts_23 : Cond.selects RX10 yX10_digit yX10_digit ∈ qt := tn (List.mem_append_left _ (List.mem_of_getElem? (i := 23) rfl)) rfl
theorem ts_24 : Cond.selects RX10 yX10_isKnown yX10_isKnown ∈ qt := tn (List.mem_append_left _ (List.mem_of_getElem? (i := 24) rfl)) rfl
theorem ts_25 : Cond.selects RX10 yX10_areAlike yX10_areAlike ∈ qt := tn (List.mem_append_left _ (List.mem_of_getElem? (i := 25) rfl)) rfl
theorem ts_26 : Cond.selects RX10 yX10_numberOf yX10_numberOf ∈ qt := tn (List.mem_append_left _ (List.mem_of_getElem? (i := 26) rfl)) rfl
theorem ts_27 : Cond.selects RX10 yX10_sorts yX10_sorts ∈ qt := tn (List.mem_append_left _ (List.mem_of_getElem? (i := 27) rfl)) rfl
theorem ts_28 : Cond.selects RX10 yX10_changePlaces yX10_changePlaces ∈ qt := tn (List.mem_append_left _ (List.mem_of_getElem? (i := 28) rfl)) rfl
theorem ts_29 : Cond.selects RX10 yX10_tells yX10_tells ∈ qt := tn (List.mem_append_left _ (List.mem_of_getElem? (i := 29) rfl)) rfl
theorem ts_30 : Cond.selects RX10 yX10_isGenerator yX10_isGenerator ∈ qt := tn (List.mem_append_left _ (List.mem_of_getElem? (i := 30) rfl)) rfl
theorem ts_31 : Cond.selects RX10 yX10_rowOf yX10_rowOf ∈ qt := tn (List.mem_append_left _ (List.mem_of_getElem? (i := 31) rfl)) rfl
theorem ts_32 : Cond.selects RX10 yX10_typeAsked yX10_typeAsked ∈ qt := tn (List.mem_append_left _ (List.mem_of_getElem? (i := 32) rfl)) rfl
theorem ts_33 : Cond.selects RX10 yX10_cycles yX10_cycles ∈ qt := tn (List.mem_append_left _ (List.mem_of_getElem? (i := 33) rfl)) rfl
theorem ts_34 : Cond.selects RX10 yX10_product yX10_product ∈ qt := tn (List.mem_append_left _ (List.mem_of_getElem? (i := 34) rfl)) rfl
theorem ts_35 : Cond.selects RX10 yX10_moves_ yX10_moves_ ∈ qt := tn (List.mem_append_left _ (List.mem_of_getElem? (i := 35) rfl)) rfl
theorem ts_36 : Cond.selects RX10 yX10_typeOf yX10_typeOf ∈ qt := tn (List.mem_append_left _ (List.mem_of_getElem? (i := 36) rfl)) rfl
theorem ts_37 : Cond.selects RX10 yX10_manyOf yX10_manyOf ∈ qt := tn (List.mem_append_left _ (List.mem_of_getElem? (i := 37) rfl)) rfl
theorem ts_38 : Cond.selects RX10 yX10_counts yX10_counts ∈ qt := tn (List.mem_append_left _ (List.mem_of_getElem? (i := 38) rfl)) rfl
theorem ts_39 : Cond.selects RX10 yX10_paintings yX10_paintings ∈ qt := tn (List.mem_append_left _ (List.mem_of_getElem? (i := 39) rfl)) rfl
theorem ts_40 : Cond.selects RX10 yX10_classesBy yX10_classesBy ∈ qt := tn (List.mem_append_left _ (List.mem_of_getElem? (i := 40) rfl)) rfl
theorem ts_41 : Cond.selects RX10 yX10_allClasses yX10_allClasses ∈ qt := tn (List.mem_append_left _ (List.mem_of_getElem? (i := 41) rfl)) rfl
theorem ts_42 : Cond.selects RX10 yX10_classes yX10_classes ∈ qt := tn (List.mem_append_left _ (List.mem_of_getElem? (i := 42) rfl)) rfl
theorem ts_43 : Cond.selects RX10 yX10_paints yX10_paints ∈ qt := tn (List.mem_append_left _ (List.mem_of_getElem? (i := 43) rfl)) rfl
theorem ts_44 : Cond.selects RX10 yX10_becomes yX10_becomes ∈ qt := tn (List.mem_append_left _ (List.mem_of_getElem? (i := 44) rfl)) rfl
theorem ts_45 : Cond.selects RX10 yX10_pairs yX10_pairs ∈ qt := tn (List.mem_append_left _ (List.mem_of_getElem? (i := 45) rfl)) rfl
theorem ts_46 : Cond.selects RX10 yX10_isHanded yX10_isHanded ∈ qt := tn (List.mem_append_left _ (List.mem_of_getElem? (i := 46) rfl)) rfl
theorem ts_47 : Cond.selects RX10 yX10_mirrors yX10_mirrors ∈ qt := tn (List.mem_append_left _ (List.mem_of_getElem? (i := 47) rfl)) rfl
theorem ts_48 : Cond.selects RX10 yX10_otherHand yX10_otherHand ∈ qt := tn (List.mem_append_left _ (List.mem_of_getElem? (i := 48) rfl)) rfl
theorem ts_49 : Cond.selects RX10 yX10_firstMirror yX10_firstMirror ∈ qt := tn (List.mem_append_left _ (List.mem_of_getElem? (i := 49) rfl)) rfl
theorem ts_50 : Cond.selects RX10 yX10_leastOf yX10_leastOf ∈ qt := tn (List.mem_append_left _ (List.mem_of_getElem? (i := 50) rfl)) rfl
theorem ts_51 : Cond.selects RX10 yX10_indexes yX10_indexes ∈ qt := tn (List.mem_append_left _ (List.mem_of_getElem? (i := 51) rfl)) rfl
theorem ts_52 : Cond.selects RX10 yX10_comes yX10_comes ∈ qt := tn (List.mem_append_left _ (List.mem_of_getElem? (i := 52) rfl)) rfl
theorem ts_53 : Cond.selects RX10 yX10_indexOf yX10_indexOf ∈ qt := tn (List.mem_append_left _ (List.mem_of_getElem? (i := 53) rfl)) rfl
theorem ts_54 : Cond.selects RX10 yX10_tellsPainting yX10_tellsPainting ∈ qt := tn (List.mem_append_left _ (List.mem_of_getElem? (i := 54) rfl)) rfl
theorem ts_55 : Cond.selects RX10 yX10_sizeOf yX10_sizeOf ∈ qt := tn (List.mem_append_left _ (List.mem_of_getElem? (i := 55) rfl)) rfl
theorem ts_56 : Cond.selects RX10 yX10_heavyOf yX10_heavyOf ∈ qt := tn (List.mem_append_left _ (List.mem_of_getElem? (i := 56) rfl)) rfl
theorem ts_57 : Cond.selects RX10 yX10_useOf yX10_useOf ∈ qt := tn (List.mem_append_left _ (List.mem_of_getElem? (i := 57) rfl)) rfl
theorem ts_58 : Cond.selects RX10 yX10_clause yX10_clause ∈ qt := tn (List.mem_append_left _ (List.mem_of_getElem? (i := 58) rfl)) rfl
theorem ts_59 : Cond.selects RX10 yX10_here yX10_here ∈ qt := tn (List.mem_append_left _ (List.mem_of_getElem? (i := 59) rfl)) rfl
theorem ts_60 : Cond.selects RX10 yX10_digits yX10_digits ∈ qt := tn (List.mem_append_left _ (List.mem_of_getElem? (i := 60) rfl)) rfl
theorem ts_61 : Cond.selects RX10 yX10_troubled yX10_troubled ∈ qt := tn (List.mem_append_left _ (List.mem_of_getElem? (i := 61) rfl)) rfl
theorem ts_62 : Cond.selects RX10 yX10_isDone yX10_isDone ∈ qt := tn (List.mem_append_left _ (List.mem_of_getElem? (i := 62) rfl)) rfl
theorem ts_63 : Cond.selects RX10 yX10_isAllSo yX10_isAllSo ∈ qt := tn (List.mem_append_left _ (List.mem_of_getElem? (i := 63) rfl)) rfl
theorem ts_64 : Cond.selects RX10 yX10_isSo yX10_isSo ∈ qt := tn (List.mem_append_left _ (List.mem_of_getElem? (i := 64) rfl)) rfl
theorem ts_65 : Cond.selects RX10 yX10_happens yX10_happens ∈ qt := tn (List.mem_append_left _ (List.mem_of_getElem? (i := 65) rfl)) rfl
theorem ts_66 : Cond.selects RX10 yX10_moveCount yX10_moveCount ∈ qt := tn (List.mem_append_left _ (List.mem_of_getElem? (i := 66) rfl)) rfl
theorem inX1 : ∀ w ∈ wsX10, w ∈ qt := by
  intro w h
  obtain ⟨k, hk, rfl⟩ := List.mem_map.mp h
  have hk := List.mem_range.mp hk
  match k, hk with
  | 0, _ => exact tw_1_155
  | 1, _ => exact tw_1_157
  | 2, _ => exact tw_1_159
  | j + 3, hk => exact absurd hk (by omega)
theorem inX3 : ∀ w ∈ wsX30, w ∈ qt := by
  intro w h
  obtain ⟨k, hk, rfl⟩ := List.mem_map.mp h
  have hk := List.mem_range.mp hk
  match k, hk with
  | 0, _ => exact tw_1_61
  | 1, _ => exact tw_1_63
  | 2, _ => exact tw_1_65
  | 3, _ => exact tw_1_67
  | 4, _ => exact tw_1_69
  | 5, _ => exact tw_1_71
  | 6, _ => exact tw_1_73
  | 7, _ => exact tw_1_75
  | 8, _ => exact tw_1_77
  | 9, _ => exact tw_1_79
  | 10, _ => exact tw_1_81
  | 11, _ => exact tw_1_83
  | 12, _ => exact tw_1_85
  | 13, _ => exact tw_1_87
  | j + 14, hk => exact absurd hk (by omega)
theorem inX4 : ∀ w ∈ wsX40, w ∈ qt := by
  intro w h
  obtain ⟨k, hk, rfl⟩ := List.mem_map.mp h
  have hk := List.mem_range.mp hk
  match k, hk with
  | 0, _ => exact tw_1_134
  | 1, _ => exact tw_1_136
  | 2, _ => exact tw_1_138
  | 3, _ => exact tw_1_140
  | j + 4, hk => exact absurd hk (by omega)
theorem inX5 : ∀ w ∈ wsX50, w ∈ qt := by
  intro w h
  obtain ⟨k, hk, rfl⟩ := List.mem_map.mp h
  have hk := List.mem_range.mp hk
  match k, hk with
  | 0, _ => exact tw_1_109
  | 1, _ => exact tw_1_111
  | 2, _ => exact tw_1_113
  | 3, _ => exact tw_1_115
  | 4, _ => exact tw_1_117
  | j + 5, hk => exact absurd hk (by omega)
theorem inX6 : ∀ w ∈ wsX60, w ∈ qt := by
  intro w h
  obtain ⟨k, hk, rfl⟩ := List.mem_map.mp h
  have hk := List.mem_range.mp hk
  match k, hk with
  | 0, _ => exact tw_1_218
  | 1, _ => exact tw_1_220
  | 2, _ => exact tw_1_222
  | j + 3, hk => exact absurd hk (by omega)
theorem inX7 : ∀ w ∈ wsX70, w ∈ qt := by
  intro w h
  obtain ⟨k, hk, rfl⟩ := List.mem_map.mp h
  have hk := List.mem_range.mp hk
  match k, hk with
  | 0, _ => exact tw_1_175
  | 1, _ => exact tw_1_177
  | 2, _ => exact tw_1_179
  | 3, _ => exact tw_1_181
  | 4, _ => exact tw_1_183
  | j + 5, hk => exact absurd hk (by omega)
theorem inX8 : ∀ w ∈ wsX80, w ∈ qt := by
  intro w h
  obtain ⟨k, hk, rfl⟩ := List.mem_map.mp h
  have hk := List.mem_range.mp hk
  match k, hk with
  | 0, _ => exact tw_1_198
  | 1, _ => exact tw_1_200
  | 2, _ => exact tw_1_202
  | j + 3, hk => exact absurd hk (by omega)
theorem inX9 : ∀ w ∈ wsX90, w ∈ qt := by
  intro w h
  obtain ⟨k, hk, rfl⟩ := List.mem_map.mp h
  have hk := List.mem_range.mp hk
  match k, hk with
  | 0, _ => exact tw_2_18
  | 1, _ => exact tw_2_20
  | 2, _ => exact tw_2_22
  | 3, _ => exact tw_2_24
  | 4, _ => exact tw_2_26
  | 5, _ => exact tw_2_28
  | 6, _ => exact tw_2_30
  | 7, _ => exact tw_2_32
  | 8, _ => exact tw_2_34
  | 9, _ => exact tw_2_36
  | 10, _ => exact tw_2_38
  | j + 11, hk => exact absurd hk (by omega)
theorem inX10 : ∀ w ∈ wsX100, w ∈ qt := by
  intro w h
  obtain ⟨k, hk, rfl⟩ := List.mem_map.mp h
  have hk := List.mem_range.mp hk
  match k, hk with
  | 0, _ => exact tw_4_20
  | 1, _ => exact tw_4_22
  | 2, _ => exact tw_4_24
  | 3, _ => exact tw_4_26
  | 4, _ => exact tw_4_28
  | 5, _ => exact tw_4_30
  | 6, _ => exact tw_4_32
  | 7, _ => exact tw_4_34
  | 8, _ => exact tw_4_36
  | 9, _ => exact tw_4_38
  | 10, _ => exact tw_4_40
  | 11, _ => exact tw_4_42
  | 12, _ => exact tw_4_44
  | 13, _ => exact tw_4_46
  | 14, _ => exact tw_4_48
  | 15, _ => exact tw_4_50
  | 16, _ => exact tw_4_52
  | 17, _ => exact tw_4_54
  | 18, _ => exact tw_4_56
  | 19, _ => exact tw_4_58
  | 20, _ => exact tw_4_60
  | 21, _ => exact tw_4_62
  | 22, _ => exact tw_4_64
  | 23, _ => exact tw_4_66
  | 24, _ => exact tw_4_68
  | 25, _ => exact tw_4_70
  | 26, _ => exact tw_4_72
  | 27, _ => exact tw_4_74
  | 28, _ => exact tw_4_76
  | 29, _ => exact tw_4_78
  | 30, _ => exact tw_4_80
  | j + 31, hk => exact absurd hk (by omega)
theorem sw_acNat : Cond.native (⟨"java/lang/System", "arraycopy", "(Ljava/lang/Object;ILjava/lang/Object;II)V"⟩ : MethodName) ∈ qt := tw_2_6
theorem sw_acStat : Cond.static (⟨"java/lang/System", "arraycopy", "(Ljava/lang/Object;ILjava/lang/Object;II)V"⟩ : MethodName) ∈ qt := tw_2_5
theorem sw_acInit : Cond.initialized "java/lang/System" ∈ qt := tw_1_10
theorem sw_minCode : Cond.code yJ9_min_7cf53 prog_15_method_69_code 2 (some .int) ∈ qt := tw_5_27
theorem sw_objInst : Cond.instanceMethod (⟨"java/lang/Object", "<init>", "()V"⟩ : MethodName) ∈ qt := tw_1_22
theorem sw_objCode : Cond.code (⟨"java/lang/Object", "<init>", "()V"⟩ : MethodName) object_method_1_code 1 none ∈ qt := tw_1_23
def q_nest : List (Nat × MethodName) := [(23, yX5_init), (33, yX4_init), (40, yX1_init), (50, yX7_init), (57, yX8_init), (68, yX6_init)]
