theorem tb_any (w : Cond) (h : w ∈ tables_1) : w ∈ lw_tbl := List.mem_append_right _ h
theorem tb_1 {w : Cond} (h : w ∈ tables_1_1) : w ∈ lw_tbl := tb_any w (List.mem_append_left _ h)
theorem tb_2 {w : Cond} (h : w ∈ tables_1_2) : w ∈ lw_tbl := tb_any w (List.mem_append_right _ (List.mem_append_left _ h))
theorem tb_3 {w : Cond} (h : w ∈ tables_1_3) : w ∈ lw_tbl := tb_any w (List.mem_append_right _ (List.mem_append_right _ (List.mem_append_left _ h)))
theorem tb_4 {w : Cond} (h : w ∈ tables_1_4) : w ∈ lw_tbl := tb_any w (List.mem_append_right _ (List.mem_append_right _ (List.mem_append_right _ (List.mem_append_left _ h))))
theorem tb_5 {w : Cond} (h : w ∈ tables_1_5) : w ∈ lw_tbl := tb_any w (List.mem_append_right _ (List.mem_append_right _ (List.mem_append_right _ (List.mem_append_right _ (List.mem_append_left _ h)))))
theorem tb_6 {w : Cond} (h : w ∈ tables_1_6) : w ∈ lw_tbl := tb_any w (List.mem_append_right _ (List.mem_append_right _ (List.mem_append_right _ (List.mem_append_right _ (List.mem_append_right _ (h))))))
set_option maxRecDepth 4000 in
theorem mw_1_0 : Cond.initialized "StarWalkLaw" ∈ lw_tbl := tb_1 (List.mem_of_getElem? (i := 0) rfl)
set_option maxRecDepth 4000 in
theorem mw_1_1 : Cond.initialized "StarWalk" ∈ lw_tbl := tb_1 (List.mem_of_getElem? (i := 1) rfl)
set_option maxRecDepth 4000 in
theorem mw_1_2 : Cond.initialized "StarWalk$Tape" ∈ lw_tbl := tb_1 (List.mem_of_getElem? (i := 2) rfl)
set_option maxRecDepth 4000 in
theorem mw_1_3 : Cond.initialized "StarWalk$Night" ∈ lw_tbl := tb_1 (List.mem_of_getElem? (i := 3) rfl)
set_option maxRecDepth 4000 in
theorem mw_1_4 : Cond.initialized "StarWalk$Place" ∈ lw_tbl := tb_1 (List.mem_of_getElem? (i := 4) rfl)
set_option maxRecDepth 4000 in
theorem mw_1_5 : Cond.initialized "StarWalk$Trial" ∈ lw_tbl := tb_1 (List.mem_of_getElem? (i := 5) rfl)
set_option maxRecDepth 4000 in
theorem mw_1_6 : Cond.initialized "StarWalk$Search" ∈ lw_tbl := tb_1 (List.mem_of_getElem? (i := 6) rfl)
set_option maxRecDepth 4000 in
theorem mw_1_7 : Cond.initialized "StarWalk$Odds" ∈ lw_tbl := tb_1 (List.mem_of_getElem? (i := 7) rfl)
set_option maxRecDepth 4000 in
theorem mw_1_8 : Cond.initialized "StarWalk$Sheet" ∈ lw_tbl := tb_1 (List.mem_of_getElem? (i := 8) rfl)
set_option maxRecDepth 4000 in
theorem mw_1_9 : Cond.initialized "StarWalkModel" ∈ lw_tbl := tb_1 (List.mem_of_getElem? (i := 9) rfl)
set_option maxRecDepth 4000 in
theorem mw_1_10 : Cond.initialized "java/lang/String" ∈ lw_tbl := tb_1 (List.mem_of_getElem? (i := 10) rfl)
set_option maxRecDepth 4000 in
theorem mw_1_11 : Cond.initialized "java/lang/StringLatin1" ∈ lw_tbl := tb_1 (List.mem_of_getElem? (i := 11) rfl)
set_option maxRecDepth 4000 in
theorem mw_1_12 : Cond.initialized "jdk/internal/util/Preconditions" ∈ lw_tbl := tb_1 (List.mem_of_getElem? (i := 12) rfl)
set_option maxRecDepth 4000 in
theorem mw_1_13 : Cond.initialized "java/lang/StringUTF16" ∈ lw_tbl := tb_1 (List.mem_of_getElem? (i := 13) rfl)
set_option maxRecDepth 4000 in
theorem mw_1_14 : Cond.initialized "java/lang/System" ∈ lw_tbl := tb_1 (List.mem_of_getElem? (i := 14) rfl)
set_option maxRecDepth 4000 in
theorem mw_1_15 : Cond.initialized "java/lang/Math" ∈ lw_tbl := tb_1 (List.mem_of_getElem? (i := 15) rfl)
set_option maxRecDepth 4000 in
theorem mw_1_16 : Cond.initialized "java/lang/Integer" ∈ lw_tbl := tb_1 (List.mem_of_getElem? (i := 16) rfl)
set_option maxRecDepth 4000 in
theorem mw_1_17 : Cond.classLink "StarWalkLaw" 7 "StarWalk" ∈ lw_tbl := tb_1 (List.mem_of_getElem? (i := 17) rfl)
set_option maxRecDepth 4000 in
theorem mw_1_18 : Cond.instantiable "StarWalk" 11 ∈ lw_tbl := tb_1 (List.mem_of_getElem? (i := 18) rfl)
set_option maxRecDepth 4000 in
theorem mw_1_19 : Cond.methodLink "StarWalkLaw" 9 yX7_init ∈ lw_tbl := tb_1 (List.mem_of_getElem? (i := 19) rfl)
set_option maxRecDepth 4000 in
theorem mw_1_20 : Cond.instanceMethod yX7_init ∈ lw_tbl := tb_1 (List.mem_of_getElem? (i := 20) rfl)
set_option maxRecDepth 4000 in
theorem mw_1_21 : Cond.code yX7_init prog_1_method_1_code 2 none ∈ lw_tbl := tb_1 (List.mem_of_getElem? (i := 21) rfl)
set_option maxRecDepth 4000 in
theorem mw_1_22 : Cond.methodLink "StarWalk" 1 objectInit ∈ lw_tbl := tb_1 (List.mem_of_getElem? (i := 22) rfl)
set_option maxRecDepth 4000 in
theorem mw_1_23 : Cond.instanceMethod objectInit ∈ lw_tbl := tb_1 (List.mem_of_getElem? (i := 23) rfl)
set_option maxRecDepth 4000 in
theorem mw_1_24 : Cond.code objectInit object_method_1_code 1 none ∈ lw_tbl := tb_1 (List.mem_of_getElem? (i := 24) rfl)
set_option maxRecDepth 4000 in
theorem mw_1_25 : Cond.classLink "StarWalk" 7 "StarWalk$Tape" ∈ lw_tbl := tb_1 (List.mem_of_getElem? (i := 25) rfl)
set_option maxRecDepth 4000 in
theorem mw_1_26 : Cond.instantiable "StarWalk$Tape" 10 ∈ lw_tbl := tb_1 (List.mem_of_getElem? (i := 26) rfl)
set_option maxRecDepth 4000 in
theorem mw_1_27 : Cond.methodLinkNest "StarWalk" 9 yX5_init "StarWalk" ∈ lw_tbl := tb_1 (List.mem_of_getElem? (i := 27) rfl)
set_option maxRecDepth 4000 in
theorem mw_1_28 : Cond.instanceMethod yX5_init ∈ lw_tbl := tb_1 (List.mem_of_getElem? (i := 28) rfl)
set_option maxRecDepth 4000 in
theorem mw_1_29 : Cond.code yX5_init prog_7_method_1_code 1 none ∈ lw_tbl := tb_1 (List.mem_of_getElem? (i := 29) rfl)
set_option maxRecDepth 4000 in
theorem mw_1_30 : Cond.methodLink "StarWalk$Tape" 3 objectInit ∈ lw_tbl := tb_1 (List.mem_of_getElem? (i := 30) rfl)
set_option maxRecDepth 4000 in
theorem mw_1_31 : Cond.classLink "StarWalk$Tape" 15 "StarWalk$Night" ∈ lw_tbl := tb_1 (List.mem_of_getElem? (i := 31) rfl)
set_option maxRecDepth 4000 in
theorem mw_1_32 : Cond.instantiable "StarWalk$Night" 18 ∈ lw_tbl := tb_1 (List.mem_of_getElem? (i := 32) rfl)
set_option maxRecDepth 4000 in
theorem mw_1_33 : Cond.methodLink "StarWalk$Tape" 17 yX0_init ∈ lw_tbl := tb_1 (List.mem_of_getElem? (i := 33) rfl)
set_option maxRecDepth 4000 in
theorem mw_1_34 : Cond.instanceMethod yX0_init ∈ lw_tbl := tb_1 (List.mem_of_getElem? (i := 34) rfl)
set_option maxRecDepth 4000 in
theorem mw_1_35 : Cond.code yX0_init prog_2_method_1_code 1 none ∈ lw_tbl := tb_1 (List.mem_of_getElem? (i := 35) rfl)
set_option maxRecDepth 4000 in
theorem mw_1_36 : Cond.methodLink "StarWalk$Night" 3 objectInit ∈ lw_tbl := tb_1 (List.mem_of_getElem? (i := 36) rfl)
set_option maxRecDepth 4000 in
theorem mw_1_37 : Cond.classLink "StarWalk$Night" 24 "StarWalk$Place" ∈ lw_tbl := tb_1 (List.mem_of_getElem? (i := 37) rfl)
set_option maxRecDepth 4000 in
theorem mw_1_38 : Cond.instantiable "StarWalk$Place" 4 ∈ lw_tbl := tb_1 (List.mem_of_getElem? (i := 38) rfl)
set_option maxRecDepth 4000 in
theorem mw_1_39 : Cond.methodLinkNest "StarWalk$Night" 26 yX2_init "StarWalk" ∈ lw_tbl := tb_1 (List.mem_of_getElem? (i := 39) rfl)
set_option maxRecDepth 4000 in
theorem mw_1_40 : Cond.instanceMethod yX2_init ∈ lw_tbl := tb_1 (List.mem_of_getElem? (i := 40) rfl)
set_option maxRecDepth 4000 in
theorem mw_1_41 : Cond.code yX2_init prog_4_method_1_code 1 none ∈ lw_tbl := tb_1 (List.mem_of_getElem? (i := 41) rfl)
set_option maxRecDepth 4000 in
theorem mw_1_42 : Cond.methodLink "StarWalk$Place" 3 objectInit ∈ lw_tbl := tb_1 (List.mem_of_getElem? (i := 42) rfl)
set_option maxRecDepth 4000 in
theorem mw_1_43 : Cond.fieldLink "StarWalk$Place" 9 "StarWalk$Place" "hour" "I" ∈ lw_tbl := tb_1 (List.mem_of_getElem? (i := 43) rfl)
set_option maxRecDepth 4000 in
theorem mw_1_44 : Cond.fieldLink "StarWalk$Night" 68 "StarWalk$Place" "hour" "I" ∈ lw_tbl := tb_1 (List.mem_of_getElem? (i := 44) rfl)
set_option maxRecDepth 4000 in
theorem mw_1_45 : Cond.fieldLink "StarWalk$Trial" 49 "StarWalk$Place" "hour" "I" ∈ lw_tbl := tb_1 (List.mem_of_getElem? (i := 45) rfl)
set_option maxRecDepth 4000 in
theorem mw_1_46 : Cond.fieldLink "StarWalk$Odds" 72 "StarWalk$Place" "hour" "I" ∈ lw_tbl := tb_1 (List.mem_of_getElem? (i := 46) rfl)
set_option maxRecDepth 4000 in
theorem mw_1_47 : Cond.fieldLink "StarWalk" 121 "StarWalk$Place" "hour" "I" ∈ lw_tbl := tb_1 (List.mem_of_getElem? (i := 47) rfl)
set_option maxRecDepth 4000 in
theorem mw_1_48 : Cond.fieldLink "StarWalk$Place" 15 "StarWalk$Place" "miles" "I" ∈ lw_tbl := tb_1 (List.mem_of_getElem? (i := 48) rfl)
set_option maxRecDepth 4000 in
theorem mw_1_49 : Cond.fieldLink "StarWalk$Night" 71 "StarWalk$Place" "miles" "I" ∈ lw_tbl := tb_1 (List.mem_of_getElem? (i := 49) rfl)
set_option maxRecDepth 4000 in
theorem mw_1_50 : Cond.fieldLink "StarWalk$Odds" 52 "StarWalk$Place" "miles" "I" ∈ lw_tbl := tb_1 (List.mem_of_getElem? (i := 50) rfl)
set_option maxRecDepth 4000 in
theorem mw_1_51 : Cond.fieldLink "StarWalk$Search" 68 "StarWalk$Place" "miles" "I" ∈ lw_tbl := tb_1 (List.mem_of_getElem? (i := 51) rfl)
set_option maxRecDepth 4000 in
theorem mw_1_52 : Cond.fieldLink "StarWalk" 124 "StarWalk$Place" "miles" "I" ∈ lw_tbl := tb_1 (List.mem_of_getElem? (i := 52) rfl)
set_option maxRecDepth 4000 in
theorem mw_1_53 : Cond.fieldLink "StarWalk$Place" 18 "StarWalk$Place" "side" "I" ∈ lw_tbl := tb_1 (List.mem_of_getElem? (i := 53) rfl)
set_option maxRecDepth 4000 in
theorem mw_1_54 : Cond.fieldLink "StarWalk$Night" 74 "StarWalk$Place" "side" "I" ∈ lw_tbl := tb_1 (List.mem_of_getElem? (i := 54) rfl)
set_option maxRecDepth 4000 in
theorem mw_1_55 : Cond.fieldLink "StarWalk$Trial" 37 "StarWalk$Place" "side" "I" ∈ lw_tbl := tb_1 (List.mem_of_getElem? (i := 55) rfl)
set_option maxRecDepth 4000 in
theorem mw_1_56 : Cond.fieldLink "StarWalk$Search" 65 "StarWalk$Place" "side" "I" ∈ lw_tbl := tb_1 (List.mem_of_getElem? (i := 56) rfl)
set_option maxRecDepth 4000 in
theorem mw_1_57 : Cond.fieldLink "StarWalk" 127 "StarWalk$Place" "side" "I" ∈ lw_tbl := tb_1 (List.mem_of_getElem? (i := 57) rfl)
set_option maxRecDepth 4000 in
theorem mw_1_58 : Cond.fieldLink "StarWalk$Place" 21 "StarWalk$Place" "water" "I" ∈ lw_tbl := tb_1 (List.mem_of_getElem? (i := 58) rfl)
set_option maxRecDepth 4000 in
theorem mw_1_59 : Cond.fieldLink "StarWalk$Night" 77 "StarWalk$Place" "water" "I" ∈ lw_tbl := tb_1 (List.mem_of_getElem? (i := 59) rfl)
set_option maxRecDepth 4000 in
theorem mw_1_60 : Cond.fieldLink "StarWalk" 115 "StarWalk$Place" "water" "I" ∈ lw_tbl := tb_1 (List.mem_of_getElem? (i := 60) rfl)
set_option maxRecDepth 4000 in
theorem mw_1_61 : Cond.fieldLink "StarWalk$Tape" 168 "StarWalk$Place" "water" "I" ∈ lw_tbl := tb_1 (List.mem_of_getElem? (i := 61) rfl)
set_option maxRecDepth 4000 in
theorem mw_1_62 : Cond.lays "StarWalk$Place" "StarWalk$Place" "hour" "I" ∈ lw_tbl := tb_1 (List.mem_of_getElem? (i := 62) rfl)
set_option maxRecDepth 4000 in
theorem mw_1_63 : Cond.soleField "StarWalk$Place" "hour" ∈ lw_tbl := tb_1 (List.mem_of_getElem? (i := 63) rfl)
set_option maxRecDepth 4000 in
theorem mw_1_64 : Cond.lays "StarWalk$Place" "StarWalk$Place" "miles" "I" ∈ lw_tbl := tb_1 (List.mem_of_getElem? (i := 64) rfl)
set_option maxRecDepth 4000 in
theorem mw_1_65 : Cond.soleField "StarWalk$Place" "miles" ∈ lw_tbl := tb_1 (List.mem_of_getElem? (i := 65) rfl)
set_option maxRecDepth 4000 in
theorem mw_1_66 : Cond.lays "StarWalk$Place" "StarWalk$Place" "side" "I" ∈ lw_tbl := tb_1 (List.mem_of_getElem? (i := 66) rfl)
set_option maxRecDepth 4000 in
theorem mw_1_67 : Cond.soleField "StarWalk$Place" "side" ∈ lw_tbl := tb_1 (List.mem_of_getElem? (i := 67) rfl)
set_option maxRecDepth 4000 in
theorem mw_1_68 : Cond.lays "StarWalk$Place" "StarWalk$Place" "water" "I" ∈ lw_tbl := tb_1 (List.mem_of_getElem? (i := 68) rfl)
set_option maxRecDepth 4000 in
theorem mw_1_69 : Cond.soleField "StarWalk$Place" "water" ∈ lw_tbl := tb_1 (List.mem_of_getElem? (i := 69) rfl)
set_option maxRecDepth 4000 in
theorem mw_1_70 : Cond.superclass "StarWalk$Place" "java/lang/Object" ∈ lw_tbl := tb_1 (List.mem_of_getElem? (i := 70) rfl)
set_option maxRecDepth 4000 in
theorem mw_1_71 : Cond.arrayClass Jvm.ClassFile.FieldType.byte ∈ lw_tbl := tb_1 (List.mem_of_getElem? (i := 71) rfl)
set_option maxRecDepth 4000 in
theorem mw_1_72 : Cond.arrayClass Jvm.ClassFile.FieldType.int ∈ lw_tbl := tb_1 (List.mem_of_getElem? (i := 72) rfl)
set_option maxRecDepth 4000 in
theorem mw_1_73 : Cond.methodLink "StarWalk$Night" 40 yX0_clear ∈ lw_tbl := tb_1 (List.mem_of_getElem? (i := 73) rfl)
set_option maxRecDepth 4000 in
theorem mw_1_74 : Cond.instanceMethod yX0_clear ∈ lw_tbl := tb_1 (List.mem_of_getElem? (i := 74) rfl)
set_option maxRecDepth 4000 in
theorem mw_1_75 : Cond.selects "StarWalk$Night" yX0_clear yX0_clear ∈ lw_tbl := tb_1 (List.mem_of_getElem? (i := 75) rfl)
set_option maxRecDepth 4000 in
theorem mw_1_76 : Cond.code yX0_clear prog_2_method_2_code 1 none ∈ lw_tbl := tb_1 (List.mem_of_getElem? (i := 76) rfl)
set_option maxRecDepth 4000 in
theorem mw_1_77 : Cond.fieldLink "StarWalk$Night" 9 "StarWalk$Night" "from" "[I" ∈ lw_tbl := tb_1 (List.mem_of_getElem? (i := 77) rfl)
set_option maxRecDepth 4000 in
theorem mw_1_78 : Cond.fieldLink "StarWalk" 144 "StarWalk$Night" "from" "[I" ∈ lw_tbl := tb_1 (List.mem_of_getElem? (i := 78) rfl)
set_option maxRecDepth 4000 in
theorem mw_1_79 : Cond.fieldLink "StarWalk$Night" 15 "StarWalk$Night" "to" "[I" ∈ lw_tbl := tb_1 (List.mem_of_getElem? (i := 79) rfl)
set_option maxRecDepth 4000 in
theorem mw_1_80 : Cond.fieldLink "StarWalk" 148 "StarWalk$Night" "to" "[I" ∈ lw_tbl := tb_1 (List.mem_of_getElem? (i := 80) rfl)
set_option maxRecDepth 4000 in
theorem mw_1_81 : Cond.fieldLink "StarWalk$Night" 18 "StarWalk$Night" "off" "[I" ∈ lw_tbl := tb_1 (List.mem_of_getElem? (i := 81) rfl)
set_option maxRecDepth 4000 in
theorem mw_1_82 : Cond.fieldLink "StarWalk" 151 "StarWalk$Night" "off" "[I" ∈ lw_tbl := tb_1 (List.mem_of_getElem? (i := 82) rfl)
set_option maxRecDepth 4000 in
theorem mw_1_83 : Cond.fieldLink "StarWalk$Night" 43 "StarWalk$Night" "stars" "I" ∈ lw_tbl := tb_1 (List.mem_of_getElem? (i := 83) rfl)
set_option maxRecDepth 4000 in
theorem mw_1_84 : Cond.fieldLink "StarWalk$Tape" 61 "StarWalk$Night" "stars" "I" ∈ lw_tbl := tb_1 (List.mem_of_getElem? (i := 84) rfl)
set_option maxRecDepth 4000 in
theorem mw_1_85 : Cond.fieldLink "StarWalk" 94 "StarWalk$Night" "stars" "I" ∈ lw_tbl := tb_1 (List.mem_of_getElem? (i := 85) rfl)
set_option maxRecDepth 4000 in
theorem mw_1_86 : Cond.fieldLink "StarWalk$Night" 47 "StarWalk$Night" "known" "I" ∈ lw_tbl := tb_1 (List.mem_of_getElem? (i := 86) rfl)
set_option maxRecDepth 4000 in
theorem mw_1_87 : Cond.fieldLink "StarWalk$Tape" 58 "StarWalk$Night" "known" "I" ∈ lw_tbl := tb_1 (List.mem_of_getElem? (i := 87) rfl)
set_option maxRecDepth 4000 in
theorem mw_1_88 : Cond.fieldLink "StarWalk" 187 "StarWalk$Night" "known" "I" ∈ lw_tbl := tb_1 (List.mem_of_getElem? (i := 88) rfl)
set_option maxRecDepth 4000 in
theorem mw_1_89 : Cond.fieldLink "StarWalk$Night" 21 "StarWalk$Night" "kinds" "[I" ∈ lw_tbl := tb_1 (List.mem_of_getElem? (i := 89) rfl)
set_option maxRecDepth 4000 in
theorem mw_1_90 : Cond.fieldLink "StarWalk" 160 "StarWalk$Night" "kinds" "[I" ∈ lw_tbl := tb_1 (List.mem_of_getElem? (i := 90) rfl)
set_option maxRecDepth 4000 in
theorem mw_1_91 : Cond.fieldLink "StarWalk$Night" 50 "StarWalk$Night" "walkers" "I" ∈ lw_tbl := tb_1 (List.mem_of_getElem? (i := 91) rfl)
set_option maxRecDepth 4000 in
theorem mw_1_92 : Cond.fieldLink "StarWalk" 97 "StarWalk$Night" "walkers" "I" ∈ lw_tbl := tb_1 (List.mem_of_getElem? (i := 92) rfl)
set_option maxRecDepth 4000 in
theorem mw_1_93 : Cond.fieldLink "StarWalk$Tape" 146 "StarWalk$Night" "walkers" "I" ∈ lw_tbl := tb_1 (List.mem_of_getElem? (i := 93) rfl)
set_option maxRecDepth 4000 in
theorem mw_1_94 : Cond.fieldLink "StarWalk$Night" 53 "StarWalk$Night" "inFront" "I" ∈ lw_tbl := tb_1 (List.mem_of_getElem? (i := 94) rfl)
set_option maxRecDepth 4000 in
theorem mw_1_95 : Cond.fieldLink "StarWalk" 100 "StarWalk$Night" "inFront" "I" ∈ lw_tbl := tb_1 (List.mem_of_getElem? (i := 95) rfl)
set_option maxRecDepth 4000 in
theorem mw_1_96 : Cond.fieldLink "StarWalk$Night" 56 "StarWalk$Night" "wellMiles" "I" ∈ lw_tbl := tb_1 (List.mem_of_getElem? (i := 96) rfl)
set_option maxRecDepth 4000 in
theorem mw_1_97 : Cond.fieldLink "StarWalk" 103 "StarWalk$Night" "wellMiles" "I" ∈ lw_tbl := tb_1 (List.mem_of_getElem? (i := 97) rfl)
set_option maxRecDepth 4000 in
theorem mw_1_98 : Cond.fieldLink "StarWalk$Tape" 155 "StarWalk$Night" "wellMiles" "I" ∈ lw_tbl := tb_1 (List.mem_of_getElem? (i := 98) rfl)
set_option maxRecDepth 4000 in
theorem mw_1_99 : Cond.fieldLink "StarWalk$Night" 59 "StarWalk$Night" "broad" "I" ∈ lw_tbl := tb_1 (List.mem_of_getElem? (i := 99) rfl)
set_option maxRecDepth 4000 in
theorem mw_1_100 : Cond.fieldLink "StarWalk" 106 "StarWalk$Night" "broad" "I" ∈ lw_tbl := tb_1 (List.mem_of_getElem? (i := 100) rfl)
set_option maxRecDepth 4000 in
theorem mw_1_101 : Cond.fieldLink "StarWalk$Tape" 158 "StarWalk$Night" "broad" "I" ∈ lw_tbl := tb_1 (List.mem_of_getElem? (i := 101) rfl)
set_option maxRecDepth 4000 in
theorem mw_1_102 : Cond.fieldLink "StarWalk$Night" 62 "StarWalk$Night" "till" "I" ∈ lw_tbl := tb_1 (List.mem_of_getElem? (i := 102) rfl)
set_option maxRecDepth 4000 in
theorem mw_1_103 : Cond.fieldLink "StarWalk" 109 "StarWalk$Night" "till" "I" ∈ lw_tbl := tb_1 (List.mem_of_getElem? (i := 103) rfl)
set_option maxRecDepth 4000 in
theorem mw_1_104 : Cond.fieldLink "StarWalk$Tape" 161 "StarWalk$Night" "till" "I" ∈ lw_tbl := tb_1 (List.mem_of_getElem? (i := 104) rfl)
set_option maxRecDepth 4000 in
theorem mw_1_105 : Cond.fieldLink "StarWalk$Night" 65 "StarWalk$Night" "clouds" "I" ∈ lw_tbl := tb_1 (List.mem_of_getElem? (i := 105) rfl)
set_option maxRecDepth 4000 in
theorem mw_1_106 : Cond.fieldLink "StarWalk$Odds" 69 "StarWalk$Night" "clouds" "I" ∈ lw_tbl := tb_1 (List.mem_of_getElem? (i := 106) rfl)
set_option maxRecDepth 4000 in
theorem mw_1_107 : Cond.fieldLink "StarWalk" 118 "StarWalk$Night" "clouds" "I" ∈ lw_tbl := tb_1 (List.mem_of_getElem? (i := 107) rfl)
set_option maxRecDepth 4000 in
theorem mw_1_108 : Cond.fieldLink "StarWalk$Tape" 175 "StarWalk$Night" "clouds" "I" ∈ lw_tbl := tb_1 (List.mem_of_getElem? (i := 108) rfl)
set_option maxRecDepth 4000 in
theorem mw_1_109 : Cond.fieldLink "StarWalk$Night" 27 "StarWalk$Night" "place" "LStarWalk$Place;" ∈ lw_tbl := tb_1 (List.mem_of_getElem? (i := 109) rfl)
set_option maxRecDepth 4000 in
theorem mw_1_110 : Cond.fieldLink "StarWalk$Search" 29 "StarWalk$Night" "place" "LStarWalk$Place;" ∈ lw_tbl := tb_1 (List.mem_of_getElem? (i := 110) rfl)
set_option maxRecDepth 4000 in
theorem mw_1_111 : Cond.fieldLink "StarWalk$Odds" 37 "StarWalk$Night" "place" "LStarWalk$Place;" ∈ lw_tbl := tb_1 (List.mem_of_getElem? (i := 111) rfl)
set_option maxRecDepth 4000 in
theorem mw_1_112 : Cond.fieldLink "StarWalk$Trial" 26 "StarWalk$Night" "place" "LStarWalk$Place;" ∈ lw_tbl := tb_1 (List.mem_of_getElem? (i := 112) rfl)
set_option maxRecDepth 4000 in
theorem mw_1_113 : Cond.fieldLink "StarWalk" 112 "StarWalk$Night" "place" "LStarWalk$Place;" ∈ lw_tbl := tb_1 (List.mem_of_getElem? (i := 113) rfl)
set_option maxRecDepth 4000 in
theorem mw_1_114 : Cond.fieldLink "StarWalk$Tape" 164 "StarWalk$Night" "place" "LStarWalk$Place;" ∈ lw_tbl := tb_1 (List.mem_of_getElem? (i := 114) rfl)
set_option maxRecDepth 4000 in
theorem mw_1_115 : Cond.fieldLink "StarWalk$Night" 31 "StarWalk$Night" "plannedAims" "[I" ∈ lw_tbl := tb_1 (List.mem_of_getElem? (i := 115) rfl)
set_option maxRecDepth 4000 in
theorem mw_1_116 : Cond.fieldLink "StarWalk$Trial" 46 "StarWalk$Night" "plannedAims" "[I" ∈ lw_tbl := tb_1 (List.mem_of_getElem? (i := 116) rfl)
set_option maxRecDepth 4000 in
theorem mw_1_117 : Cond.fieldLink "StarWalk$Odds" 79 "StarWalk$Night" "plannedAims" "[I" ∈ lw_tbl := tb_1 (List.mem_of_getElem? (i := 117) rfl)
set_option maxRecDepth 4000 in
theorem mw_1_118 : Cond.fieldLink "StarWalk$Tape" 68 "StarWalk$Night" "plannedAims" "[I" ∈ lw_tbl := tb_1 (List.mem_of_getElem? (i := 118) rfl)
set_option maxRecDepth 4000 in
theorem mw_1_119 : Cond.fieldLink "StarWalk" 166 "StarWalk$Night" "plannedAims" "[I" ∈ lw_tbl := tb_1 (List.mem_of_getElem? (i := 119) rfl)
set_option maxRecDepth 4000 in
theorem mw_1_120 : Cond.fieldLink "StarWalk$Night" 80 "StarWalk$Night" "planned" "I" ∈ lw_tbl := tb_1 (List.mem_of_getElem? (i := 120) rfl)
set_option maxRecDepth 4000 in
theorem mw_1_121 : Cond.fieldLink "StarWalk$Trial" 69 "StarWalk$Night" "planned" "I" ∈ lw_tbl := tb_1 (List.mem_of_getElem? (i := 121) rfl)
set_option maxRecDepth 4000 in
theorem mw_1_122 : Cond.fieldLink "StarWalk" 138 "StarWalk$Night" "planned" "I" ∈ lw_tbl := tb_1 (List.mem_of_getElem? (i := 122) rfl)
set_option maxRecDepth 4000 in
theorem mw_1_123 : Cond.fieldLink "StarWalk$Night" 34 "StarWalk$Night" "seenBehind" "[I" ∈ lw_tbl := tb_1 (List.mem_of_getElem? (i := 123) rfl)
set_option maxRecDepth 4000 in
theorem mw_1_124 : Cond.fieldLink "StarWalk$Trial" 66 "StarWalk$Night" "seenBehind" "[I" ∈ lw_tbl := tb_1 (List.mem_of_getElem? (i := 124) rfl)
set_option maxRecDepth 4000 in
theorem mw_1_125 : Cond.fieldLink "StarWalk" 279 "StarWalk$Night" "seenBehind" "[I" ∈ lw_tbl := tb_1 (List.mem_of_getElem? (i := 125) rfl)
set_option maxRecDepth 4000 in
theorem mw_1_126 : Cond.fieldLink "StarWalk$Night" 37 "StarWalk$Night" "seenSide" "[I" ∈ lw_tbl := tb_1 (List.mem_of_getElem? (i := 126) rfl)
set_option maxRecDepth 4000 in
theorem mw_1_127 : Cond.fieldLink "StarWalk$Trial" 78 "StarWalk$Night" "seenSide" "[I" ∈ lw_tbl := tb_1 (List.mem_of_getElem? (i := 127) rfl)
set_option maxRecDepth 4000 in
theorem mw_1_128 : Cond.fieldLink "StarWalk" 282 "StarWalk$Night" "seenSide" "[I" ∈ lw_tbl := tb_1 (List.mem_of_getElem? (i := 128) rfl)
set_option maxRecDepth 4000 in
theorem mw_1_129 : Cond.fieldLink "StarWalk$Night" 83 "StarWalk$Night" "seen" "I" ∈ lw_tbl := tb_1 (List.mem_of_getElem? (i := 129) rfl)
set_option maxRecDepth 4000 in
theorem mw_1_130 : Cond.fieldLink "StarWalk$Trial" 63 "StarWalk$Night" "seen" "I" ∈ lw_tbl := tb_1 (List.mem_of_getElem? (i := 130) rfl)
set_option maxRecDepth 4000 in
theorem mw_1_131 : Cond.fieldLink "StarWalk" 276 "StarWalk$Night" "seen" "I" ∈ lw_tbl := tb_1 (List.mem_of_getElem? (i := 131) rfl)
set_option maxRecDepth 4000 in
theorem mw_1_132 : Cond.laysFinal "StarWalk$Night" "StarWalk$Night" "from" "[I" ∈ lw_tbl := tb_1 (List.mem_of_getElem? (i := 132) rfl)
set_option maxRecDepth 4000 in
theorem mw_1_133 : Cond.soleField "StarWalk$Night" "from" ∈ lw_tbl := tb_1 (List.mem_of_getElem? (i := 133) rfl)
set_option maxRecDepth 4000 in
theorem mw_1_134 : Cond.laysFinal "StarWalk$Night" "StarWalk$Night" "to" "[I" ∈ lw_tbl := tb_1 (List.mem_of_getElem? (i := 134) rfl)
set_option maxRecDepth 4000 in
theorem mw_1_135 : Cond.soleField "StarWalk$Night" "to" ∈ lw_tbl := tb_1 (List.mem_of_getElem? (i := 135) rfl)
set_option maxRecDepth 4000 in
theorem mw_1_136 : Cond.laysFinal "StarWalk$Night" "StarWalk$Night" "off" "[I" ∈ lw_tbl := tb_1 (List.mem_of_getElem? (i := 136) rfl)
set_option maxRecDepth 4000 in
theorem mw_1_137 : Cond.soleField "StarWalk$Night" "off" ∈ lw_tbl := tb_1 (List.mem_of_getElem? (i := 137) rfl)
set_option maxRecDepth 4000 in
theorem mw_1_138 : Cond.lays "StarWalk$Night" "StarWalk$Night" "stars" "I" ∈ lw_tbl := tb_1 (List.mem_of_getElem? (i := 138) rfl)
set_option maxRecDepth 4000 in
theorem mw_1_139 : Cond.soleField "StarWalk$Night" "stars" ∈ lw_tbl := tb_1 (List.mem_of_getElem? (i := 139) rfl)
set_option maxRecDepth 4000 in
theorem mw_1_140 : Cond.lays "StarWalk$Night" "StarWalk$Night" "known" "I" ∈ lw_tbl := tb_1 (List.mem_of_getElem? (i := 140) rfl)
set_option maxRecDepth 4000 in
theorem mw_1_141 : Cond.soleField "StarWalk$Night" "known" ∈ lw_tbl := tb_1 (List.mem_of_getElem? (i := 141) rfl)
set_option maxRecDepth 4000 in
theorem mw_1_142 : Cond.laysFinal "StarWalk$Night" "StarWalk$Night" "kinds" "[I" ∈ lw_tbl := tb_1 (List.mem_of_getElem? (i := 142) rfl)
set_option maxRecDepth 4000 in
theorem mw_1_143 : Cond.soleField "StarWalk$Night" "kinds" ∈ lw_tbl := tb_1 (List.mem_of_getElem? (i := 143) rfl)
set_option maxRecDepth 4000 in
theorem mw_1_144 : Cond.lays "StarWalk$Night" "StarWalk$Night" "walkers" "I" ∈ lw_tbl := tb_1 (List.mem_of_getElem? (i := 144) rfl)
set_option maxRecDepth 4000 in
theorem mw_1_145 : Cond.soleField "StarWalk$Night" "walkers" ∈ lw_tbl := tb_1 (List.mem_of_getElem? (i := 145) rfl)
set_option maxRecDepth 4000 in
theorem mw_1_146 : Cond.lays "StarWalk$Night" "StarWalk$Night" "inFront" "I" ∈ lw_tbl := tb_1 (List.mem_of_getElem? (i := 146) rfl)
set_option maxRecDepth 4000 in
theorem mw_1_147 : Cond.soleField "StarWalk$Night" "inFront" ∈ lw_tbl := tb_1 (List.mem_of_getElem? (i := 147) rfl)
set_option maxRecDepth 4000 in
theorem mw_1_148 : Cond.lays "StarWalk$Night" "StarWalk$Night" "wellMiles" "I" ∈ lw_tbl := tb_1 (List.mem_of_getElem? (i := 148) rfl)
set_option maxRecDepth 4000 in
theorem mw_1_149 : Cond.soleField "StarWalk$Night" "wellMiles" ∈ lw_tbl := tb_1 (List.mem_of_getElem? (i := 149) rfl)
set_option maxRecDepth 4000 in
theorem mw_1_150 : Cond.lays "StarWalk$Night" "StarWalk$Night" "broad" "I" ∈ lw_tbl := tb_1 (List.mem_of_getElem? (i := 150) rfl)
set_option maxRecDepth 4000 in
theorem mw_1_151 : Cond.soleField "StarWalk$Night" "broad" ∈ lw_tbl := tb_1 (List.mem_of_getElem? (i := 151) rfl)
set_option maxRecDepth 4000 in
theorem mw_1_152 : Cond.lays "StarWalk$Night" "StarWalk$Night" "till" "I" ∈ lw_tbl := tb_1 (List.mem_of_getElem? (i := 152) rfl)
set_option maxRecDepth 4000 in
theorem mw_1_153 : Cond.soleField "StarWalk$Night" "till" ∈ lw_tbl := tb_1 (List.mem_of_getElem? (i := 153) rfl)
set_option maxRecDepth 4000 in
theorem mw_1_154 : Cond.lays "StarWalk$Night" "StarWalk$Night" "clouds" "I" ∈ lw_tbl := tb_1 (List.mem_of_getElem? (i := 154) rfl)
set_option maxRecDepth 4000 in
theorem mw_1_155 : Cond.soleField "StarWalk$Night" "clouds" ∈ lw_tbl := tb_1 (List.mem_of_getElem? (i := 155) rfl)
set_option maxRecDepth 4000 in
theorem mw_1_156 : Cond.laysFinal "StarWalk$Night" "StarWalk$Night" "place" "LStarWalk$Place;" ∈ lw_tbl := tb_1 (List.mem_of_getElem? (i := 156) rfl)
set_option maxRecDepth 4000 in
theorem mw_1_157 : Cond.soleField "StarWalk$Night" "place" ∈ lw_tbl := tb_1 (List.mem_of_getElem? (i := 157) rfl)
set_option maxRecDepth 4000 in
theorem mw_1_158 : Cond.laysFinal "StarWalk$Night" "StarWalk$Night" "plannedAims" "[I" ∈ lw_tbl := tb_1 (List.mem_of_getElem? (i := 158) rfl)
set_option maxRecDepth 4000 in
theorem mw_1_159 : Cond.soleField "StarWalk$Night" "plannedAims" ∈ lw_tbl := tb_1 (List.mem_of_getElem? (i := 159) rfl)
set_option maxRecDepth 4000 in
theorem mw_1_160 : Cond.lays "StarWalk$Night" "StarWalk$Night" "planned" "I" ∈ lw_tbl := tb_1 (List.mem_of_getElem? (i := 160) rfl)
set_option maxRecDepth 4000 in
theorem mw_1_161 : Cond.soleField "StarWalk$Night" "planned" ∈ lw_tbl := tb_1 (List.mem_of_getElem? (i := 161) rfl)
set_option maxRecDepth 4000 in
theorem mw_1_162 : Cond.laysFinal "StarWalk$Night" "StarWalk$Night" "seenBehind" "[I" ∈ lw_tbl := tb_1 (List.mem_of_getElem? (i := 162) rfl)
set_option maxRecDepth 4000 in
theorem mw_1_163 : Cond.soleField "StarWalk$Night" "seenBehind" ∈ lw_tbl := tb_1 (List.mem_of_getElem? (i := 163) rfl)
set_option maxRecDepth 4000 in
theorem mw_1_164 : Cond.laysFinal "StarWalk$Night" "StarWalk$Night" "seenSide" "[I" ∈ lw_tbl := tb_1 (List.mem_of_getElem? (i := 164) rfl)
set_option maxRecDepth 4000 in
theorem mw_1_165 : Cond.soleField "StarWalk$Night" "seenSide" ∈ lw_tbl := tb_1 (List.mem_of_getElem? (i := 165) rfl)
set_option maxRecDepth 4000 in
theorem mw_1_166 : Cond.lays "StarWalk$Night" "StarWalk$Night" "seen" "I" ∈ lw_tbl := tb_1 (List.mem_of_getElem? (i := 166) rfl)
set_option maxRecDepth 4000 in
theorem mw_1_167 : Cond.soleField "StarWalk$Night" "seen" ∈ lw_tbl := tb_1 (List.mem_of_getElem? (i := 167) rfl)
set_option maxRecDepth 4000 in
theorem mw_1_168 : Cond.superclass "StarWalk$Night" "java/lang/Object" ∈ lw_tbl := tb_1 (List.mem_of_getElem? (i := 168) rfl)
set_option maxRecDepth 4000 in
theorem mw_1_169 : Cond.fieldLink "StarWalk$Tape" 9 "StarWalk$Tape" "bytes" "[B" ∈ lw_tbl := tb_1 (List.mem_of_getElem? (i := 169) rfl)
set_option maxRecDepth 4000 in
theorem mw_1_170 : Cond.fieldLink "StarWalk$Tape" 22 "StarWalk$Tape" "length" "I" ∈ lw_tbl := tb_1 (List.mem_of_getElem? (i := 170) rfl)
set_option maxRecDepth 4000 in
theorem mw_1_171 : Cond.fieldLink "StarWalk" 70 "StarWalk$Tape" "length" "I" ∈ lw_tbl := tb_1 (List.mem_of_getElem? (i := 171) rfl)
set_option maxRecDepth 4000 in
theorem mw_1_172 : Cond.fieldLink "StarWalk$Tape" 18 "StarWalk$Tape" "draft" "LStarWalk$Night;" ∈ lw_tbl := tb_1 (List.mem_of_getElem? (i := 172) rfl)
set_option maxRecDepth 4000 in
theorem mw_1_173 : Cond.fieldLink "StarWalk" 87 "StarWalk$Tape" "draft" "LStarWalk$Night;" ∈ lw_tbl := tb_1 (List.mem_of_getElem? (i := 173) rfl)
set_option maxRecDepth 4000 in
theorem mw_1_174 : Cond.fieldLink "StarWalk$Tape" 44 "StarWalk$Tape" "kind" "I" ∈ lw_tbl := tb_1 (List.mem_of_getElem? (i := 174) rfl)
set_option maxRecDepth 4000 in
theorem mw_1_175 : Cond.fieldLink "StarWalk$Tape" 125 "StarWalk$Tape" "first" "I" ∈ lw_tbl := tb_1 (List.mem_of_getElem? (i := 175) rfl)
set_option maxRecDepth 4000 in
theorem mw_1_176 : Cond.fieldLink "StarWalk$Tape" 38 "StarWalk$Tape" "behind" "I" ∈ lw_tbl := tb_1 (List.mem_of_getElem? (i := 176) rfl)
set_option maxRecDepth 4000 in
theorem mw_1_177 : Cond.fieldLink "StarWalk$Tape" 181 "StarWalk$Tape" "value" "I" ∈ lw_tbl := tb_1 (List.mem_of_getElem? (i := 177) rfl)
set_option maxRecDepth 4000 in
theorem mw_1_178 : Cond.fieldLink "StarWalk$Tape" 35 "StarWalk$Tape" "linesTold" "I" ∈ lw_tbl := tb_1 (List.mem_of_getElem? (i := 178) rfl)
set_option maxRecDepth 4000 in
theorem mw_1_179 : Cond.fieldLink "StarWalk$Tape" 29 "StarWalk$Tape" "found" "I" ∈ lw_tbl := tb_1 (List.mem_of_getElem? (i := 179) rfl)
set_option maxRecDepth 4000 in
theorem mw_1_180 : Cond.fieldLink "StarWalk" 78 "StarWalk$Tape" "found" "I" ∈ lw_tbl := tb_1 (List.mem_of_getElem? (i := 180) rfl)
set_option maxRecDepth 4000 in
theorem mw_1_181 : Cond.fieldLink "StarWalk$Tape" 32 "StarWalk$Tape" "foundAt" "I" ∈ lw_tbl := tb_1 (List.mem_of_getElem? (i := 181) rfl)
set_option maxRecDepth 4000 in
theorem mw_1_182 : Cond.fieldLink "StarWalk" 84 "StarWalk$Tape" "foundAt" "I" ∈ lw_tbl := tb_1 (List.mem_of_getElem? (i := 182) rfl)
set_option maxRecDepth 4000 in
theorem mw_1_183 : Cond.laysFinal "StarWalk$Tape" "StarWalk$Tape" "bytes" "[B" ∈ lw_tbl := tb_1 (List.mem_of_getElem? (i := 183) rfl)
set_option maxRecDepth 4000 in
theorem mw_1_184 : Cond.soleField "StarWalk$Tape" "bytes" ∈ lw_tbl := tb_1 (List.mem_of_getElem? (i := 184) rfl)
set_option maxRecDepth 4000 in
theorem mw_1_185 : Cond.lays "StarWalk$Tape" "StarWalk$Tape" "length" "I" ∈ lw_tbl := tb_1 (List.mem_of_getElem? (i := 185) rfl)
set_option maxRecDepth 4000 in
theorem mw_1_186 : Cond.soleField "StarWalk$Tape" "length" ∈ lw_tbl := tb_1 (List.mem_of_getElem? (i := 186) rfl)
set_option maxRecDepth 4000 in
theorem mw_1_187 : Cond.laysFinal "StarWalk$Tape" "StarWalk$Tape" "draft" "LStarWalk$Night;" ∈ lw_tbl := tb_1 (List.mem_of_getElem? (i := 187) rfl)
set_option maxRecDepth 4000 in
theorem mw_1_188 : Cond.soleField "StarWalk$Tape" "draft" ∈ lw_tbl := tb_1 (List.mem_of_getElem? (i := 188) rfl)
set_option maxRecDepth 4000 in
theorem mw_1_189 : Cond.lays "StarWalk$Tape" "StarWalk$Tape" "kind" "I" ∈ lw_tbl := tb_1 (List.mem_of_getElem? (i := 189) rfl)
set_option maxRecDepth 4000 in
theorem mw_1_190 : Cond.soleField "StarWalk$Tape" "kind" ∈ lw_tbl := tb_1 (List.mem_of_getElem? (i := 190) rfl)
set_option maxRecDepth 4000 in
theorem mw_1_191 : Cond.lays "StarWalk$Tape" "StarWalk$Tape" "first" "I" ∈ lw_tbl := tb_1 (List.mem_of_getElem? (i := 191) rfl)
set_option maxRecDepth 4000 in
theorem mw_1_192 : Cond.soleField "StarWalk$Tape" "first" ∈ lw_tbl := tb_1 (List.mem_of_getElem? (i := 192) rfl)
set_option maxRecDepth 4000 in
theorem mw_1_193 : Cond.lays "StarWalk$Tape" "StarWalk$Tape" "behind" "I" ∈ lw_tbl := tb_1 (List.mem_of_getElem? (i := 193) rfl)
set_option maxRecDepth 4000 in
theorem mw_1_194 : Cond.soleField "StarWalk$Tape" "behind" ∈ lw_tbl := tb_1 (List.mem_of_getElem? (i := 194) rfl)
set_option maxRecDepth 4000 in
theorem mw_1_195 : Cond.lays "StarWalk$Tape" "StarWalk$Tape" "value" "I" ∈ lw_tbl := tb_1 (List.mem_of_getElem? (i := 195) rfl)
set_option maxRecDepth 4000 in
theorem mw_1_196 : Cond.soleField "StarWalk$Tape" "value" ∈ lw_tbl := tb_1 (List.mem_of_getElem? (i := 196) rfl)
set_option maxRecDepth 4000 in
theorem mw_1_197 : Cond.lays "StarWalk$Tape" "StarWalk$Tape" "linesTold" "I" ∈ lw_tbl := tb_1 (List.mem_of_getElem? (i := 197) rfl)
set_option maxRecDepth 4000 in
theorem mw_1_198 : Cond.soleField "StarWalk$Tape" "linesTold" ∈ lw_tbl := tb_1 (List.mem_of_getElem? (i := 198) rfl)
set_option maxRecDepth 4000 in
theorem mw_1_199 : Cond.lays "StarWalk$Tape" "StarWalk$Tape" "found" "I" ∈ lw_tbl := tb_1 (List.mem_of_getElem? (i := 199) rfl)
set_option maxRecDepth 4000 in
theorem mw_1_200 : Cond.soleField "StarWalk$Tape" "found" ∈ lw_tbl := tb_1 (List.mem_of_getElem? (i := 200) rfl)
set_option maxRecDepth 4000 in
theorem mw_1_201 : Cond.lays "StarWalk$Tape" "StarWalk$Tape" "foundAt" "I" ∈ lw_tbl := tb_1 (List.mem_of_getElem? (i := 201) rfl)
set_option maxRecDepth 4000 in
theorem mw_1_202 : Cond.soleField "StarWalk$Tape" "foundAt" ∈ lw_tbl := tb_1 (List.mem_of_getElem? (i := 202) rfl)
set_option maxRecDepth 4000 in
theorem mw_1_203 : Cond.superclass "StarWalk$Tape" "java/lang/Object" ∈ lw_tbl := tb_1 (List.mem_of_getElem? (i := 203) rfl)
set_option maxRecDepth 4000 in
theorem mw_1_204 : Cond.classLink "StarWalk" 16 "StarWalk$Night" ∈ lw_tbl := tb_1 (List.mem_of_getElem? (i := 204) rfl)
set_option maxRecDepth 4000 in
theorem mw_1_205 : Cond.methodLink "StarWalk" 18 yX0_init ∈ lw_tbl := tb_1 (List.mem_of_getElem? (i := 205) rfl)
set_option maxRecDepth 4000 in
theorem mw_1_206 : Cond.classLink "StarWalk" 23 "StarWalk$Trial" ∈ lw_tbl := tb_1 (List.mem_of_getElem? (i := 206) rfl)
set_option maxRecDepth 4000 in
theorem mw_1_207 : Cond.instantiable "StarWalk$Trial" 4 ∈ lw_tbl := tb_1 (List.mem_of_getElem? (i := 207) rfl)
set_option maxRecDepth 4000 in
theorem mw_1_208 : Cond.methodLinkNest "StarWalk" 25 yX6_init "StarWalk" ∈ lw_tbl := tb_1 (List.mem_of_getElem? (i := 208) rfl)
set_option maxRecDepth 4000 in
theorem mw_1_209 : Cond.instanceMethod yX6_init ∈ lw_tbl := tb_1 (List.mem_of_getElem? (i := 209) rfl)
set_option maxRecDepth 4000 in
theorem mw_1_210 : Cond.code yX6_init prog_8_method_1_code 1 none ∈ lw_tbl := tb_1 (List.mem_of_getElem? (i := 210) rfl)
set_option maxRecDepth 4000 in
theorem mw_1_211 : Cond.methodLink "StarWalk$Trial" 3 objectInit ∈ lw_tbl := tb_1 (List.mem_of_getElem? (i := 211) rfl)
set_option maxRecDepth 4000 in
theorem mw_1_212 : Cond.classLink "StarWalk$Trial" 9 "StarWalk$Night" ∈ lw_tbl := tb_1 (List.mem_of_getElem? (i := 212) rfl)
set_option maxRecDepth 4000 in
theorem mw_1_213 : Cond.methodLink "StarWalk$Trial" 11 yX0_init ∈ lw_tbl := tb_1 (List.mem_of_getElem? (i := 213) rfl)
set_option maxRecDepth 4000 in
theorem mw_1_214 : Cond.fieldLink "StarWalk$Trial" 12 "StarWalk$Trial" "night" "LStarWalk$Night;" ∈ lw_tbl := tb_1 (List.mem_of_getElem? (i := 214) rfl)
set_option maxRecDepth 4000 in
theorem mw_1_215 : Cond.fieldLink "StarWalk" 212 "StarWalk$Trial" "night" "LStarWalk$Night;" ∈ lw_tbl := tb_1 (List.mem_of_getElem? (i := 215) rfl)
set_option maxRecDepth 4000 in
theorem mw_1_216 : Cond.fieldLink "StarWalk$Trial" 18 "StarWalk$Trial" "sides" "[I" ∈ lw_tbl := tb_1 (List.mem_of_getElem? (i := 216) rfl)
set_option maxRecDepth 4000 in
theorem mw_1_217 : Cond.fieldLink "StarWalk$Trial" 30 "StarWalk$Trial" "blindSteps" "I" ∈ lw_tbl := tb_1 (List.mem_of_getElem? (i := 217) rfl)
set_option maxRecDepth 4000 in
theorem mw_1_218 : Cond.fieldLink "StarWalk" 215 "StarWalk$Trial" "blindSteps" "I" ∈ lw_tbl := tb_1 (List.mem_of_getElem? (i := 218) rfl)
set_option maxRecDepth 4000 in
theorem mw_1_219 : Cond.fieldLink "StarWalk$Trial" 34 "StarWalk$Trial" "firstRefused" "I" ∈ lw_tbl := tb_1 (List.mem_of_getElem? (i := 219) rfl)
set_option maxRecDepth 4000 in
theorem mw_1_220 : Cond.fieldLink "StarWalk" 218 "StarWalk$Trial" "firstRefused" "I" ∈ lw_tbl := tb_1 (List.mem_of_getElem? (i := 220) rfl)
set_option maxRecDepth 4000 in
theorem mw_1_221 : Cond.laysFinal "StarWalk$Trial" "StarWalk$Trial" "night" "LStarWalk$Night;" ∈ lw_tbl := tb_1 (List.mem_of_getElem? (i := 221) rfl)
set_option maxRecDepth 4000 in
theorem mw_1_222 : Cond.soleField "StarWalk$Trial" "night" ∈ lw_tbl := tb_1 (List.mem_of_getElem? (i := 222) rfl)
set_option maxRecDepth 4000 in
theorem mw_1_223 : Cond.laysFinal "StarWalk$Trial" "StarWalk$Trial" "sides" "[I" ∈ lw_tbl := tb_1 (List.mem_of_getElem? (i := 223) rfl)
set_option maxRecDepth 4000 in
theorem mw_1_224 : Cond.soleField "StarWalk$Trial" "sides" ∈ lw_tbl := tb_1 (List.mem_of_getElem? (i := 224) rfl)
set_option maxRecDepth 4000 in
theorem mw_1_225 : Cond.lays "StarWalk$Trial" "StarWalk$Trial" "blindSteps" "I" ∈ lw_tbl := tb_1 (List.mem_of_getElem? (i := 225) rfl)
set_option maxRecDepth 4000 in
theorem mw_1_226 : Cond.soleField "StarWalk$Trial" "blindSteps" ∈ lw_tbl := tb_1 (List.mem_of_getElem? (i := 226) rfl)
set_option maxRecDepth 4000 in
theorem mw_1_227 : Cond.lays "StarWalk$Trial" "StarWalk$Trial" "firstRefused" "I" ∈ lw_tbl := tb_1 (List.mem_of_getElem? (i := 227) rfl)
set_option maxRecDepth 4000 in
theorem mw_1_228 : Cond.soleField "StarWalk$Trial" "firstRefused" ∈ lw_tbl := tb_1 (List.mem_of_getElem? (i := 228) rfl)
set_option maxRecDepth 4000 in
theorem mw_1_229 : Cond.superclass "StarWalk$Trial" "java/lang/Object" ∈ lw_tbl := tb_1 (List.mem_of_getElem? (i := 229) rfl)
set_option maxRecDepth 4000 in
theorem mw_1_230 : Cond.classLink "StarWalk" 30 "StarWalk$Search" ∈ lw_tbl := tb_1 (List.mem_of_getElem? (i := 230) rfl)
set_option maxRecDepth 4000 in
theorem mw_1_231 : Cond.instantiable "StarWalk$Search" 6 ∈ lw_tbl := tb_1 (List.mem_of_getElem? (i := 231) rfl)
set_option maxRecDepth 4000 in
theorem mw_1_232 : Cond.methodLink "StarWalk" 32 yX3_init ∈ lw_tbl := tb_1 (List.mem_of_getElem? (i := 232) rfl)
set_option maxRecDepth 4000 in
theorem mw_1_233 : Cond.instanceMethod yX3_init ∈ lw_tbl := tb_1 (List.mem_of_getElem? (i := 233) rfl)
set_option maxRecDepth 4000 in
theorem mw_1_234 : Cond.code yX3_init prog_5_method_1_code 2 none ∈ lw_tbl := tb_1 (List.mem_of_getElem? (i := 234) rfl)
set_option maxRecDepth 4000 in
theorem mw_1_235 : Cond.methodLink "StarWalk$Search" 3 objectInit ∈ lw_tbl := tb_1 (List.mem_of_getElem? (i := 235) rfl)
set_option maxRecDepth 4000 in
theorem mw_1_236 : Cond.classLink "StarWalk$Search" 9 "StarWalk$Place" ∈ lw_tbl := tb_1 (List.mem_of_getElem? (i := 236) rfl)
set_option maxRecDepth 4000 in
theorem mw_1_237 : Cond.arrayOver (Jvm.ClassFile.FieldType.object "StarWalk$Place") ∈ lw_tbl := tb_1 (List.mem_of_getElem? (i := 237) rfl)
set_option maxRecDepth 4000 in
theorem mw_1_238 : Cond.methodLinkNest "StarWalk$Search" 24 yX2_init "StarWalk" ∈ lw_tbl := tb_1 (List.mem_of_getElem? (i := 238) rfl)
set_option maxRecDepth 4000 in
theorem mw_1_239 : Cond.fieldLink "StarWalk$Search" 11 "StarWalk$Search" "places" "[LStarWalk$Place;" ∈ lw_tbl := tb_1 (List.mem_of_getElem? (i := 239) rfl)
set_option maxRecDepth 4000 in
theorem mw_2_0 : Cond.fieldLink "StarWalk$Search" 17 "StarWalk$Search" "row" "[I" ∈ lw_tbl := tb_2 (List.mem_of_getElem? (i := 0) rfl)
set_option maxRecDepth 4000 in
theorem mw_2_1 : Cond.fieldLink "StarWalk$Search" 21 "StarWalk$Search" "bestRow" "[I" ∈ lw_tbl := tb_2 (List.mem_of_getElem? (i := 1) rfl)
set_option maxRecDepth 4000 in
theorem mw_2_2 : Cond.fieldLink "StarWalk" 238 "StarWalk$Search" "bestRow" "[I" ∈ lw_tbl := tb_2 (List.mem_of_getElem? (i := 2) rfl)
set_option maxRecDepth 4000 in
theorem mw_2_3 : Cond.fieldLink "StarWalk$Search" 54 "StarWalk$Search" "bestSide" "I" ∈ lw_tbl := tb_2 (List.mem_of_getElem? (i := 3) rfl)
set_option maxRecDepth 4000 in
theorem mw_2_4 : Cond.fieldLink "StarWalk" 235 "StarWalk$Search" "bestSide" "I" ∈ lw_tbl := tb_2 (List.mem_of_getElem? (i := 4) rfl)
set_option maxRecDepth 4000 in
theorem mw_2_5 : Cond.fieldLink "StarWalk$Search" 58 "StarWalk$Search" "bestMiles" "I" ∈ lw_tbl := tb_2 (List.mem_of_getElem? (i := 5) rfl)
set_option maxRecDepth 4000 in
theorem mw_2_6 : Cond.fieldLink "StarWalk" 241 "StarWalk$Search" "bestMiles" "I" ∈ lw_tbl := tb_2 (List.mem_of_getElem? (i := 6) rfl)
set_option maxRecDepth 4000 in
theorem mw_2_7 : Cond.fieldLink "StarWalk$Search" 25 "StarWalk$Search" "found" "Z" ∈ lw_tbl := tb_2 (List.mem_of_getElem? (i := 7) rfl)
set_option maxRecDepth 4000 in
theorem mw_2_8 : Cond.laysFinal "StarWalk$Search" "StarWalk$Search" "places" "[LStarWalk$Place;" ∈ lw_tbl := tb_2 (List.mem_of_getElem? (i := 8) rfl)
set_option maxRecDepth 4000 in
theorem mw_2_9 : Cond.soleField "StarWalk$Search" "places" ∈ lw_tbl := tb_2 (List.mem_of_getElem? (i := 9) rfl)
set_option maxRecDepth 4000 in
theorem mw_2_10 : Cond.laysFinal "StarWalk$Search" "StarWalk$Search" "row" "[I" ∈ lw_tbl := tb_2 (List.mem_of_getElem? (i := 10) rfl)
set_option maxRecDepth 4000 in
theorem mw_2_11 : Cond.soleField "StarWalk$Search" "row" ∈ lw_tbl := tb_2 (List.mem_of_getElem? (i := 11) rfl)
set_option maxRecDepth 4000 in
theorem mw_2_12 : Cond.laysFinal "StarWalk$Search" "StarWalk$Search" "bestRow" "[I" ∈ lw_tbl := tb_2 (List.mem_of_getElem? (i := 12) rfl)
set_option maxRecDepth 4000 in
theorem mw_2_13 : Cond.soleField "StarWalk$Search" "bestRow" ∈ lw_tbl := tb_2 (List.mem_of_getElem? (i := 13) rfl)
set_option maxRecDepth 4000 in
theorem mw_2_14 : Cond.lays "StarWalk$Search" "StarWalk$Search" "bestSide" "I" ∈ lw_tbl := tb_2 (List.mem_of_getElem? (i := 14) rfl)
set_option maxRecDepth 4000 in
theorem mw_2_15 : Cond.soleField "StarWalk$Search" "bestSide" ∈ lw_tbl := tb_2 (List.mem_of_getElem? (i := 15) rfl)
set_option maxRecDepth 4000 in
theorem mw_2_16 : Cond.lays "StarWalk$Search" "StarWalk$Search" "bestMiles" "I" ∈ lw_tbl := tb_2 (List.mem_of_getElem? (i := 16) rfl)
set_option maxRecDepth 4000 in
theorem mw_2_17 : Cond.soleField "StarWalk$Search" "bestMiles" ∈ lw_tbl := tb_2 (List.mem_of_getElem? (i := 17) rfl)
set_option maxRecDepth 4000 in
theorem mw_2_18 : Cond.lays "StarWalk$Search" "StarWalk$Search" "found" "Z" ∈ lw_tbl := tb_2 (List.mem_of_getElem? (i := 18) rfl)
set_option maxRecDepth 4000 in
theorem mw_2_19 : Cond.soleField "StarWalk$Search" "found" ∈ lw_tbl := tb_2 (List.mem_of_getElem? (i := 19) rfl)
set_option maxRecDepth 4000 in
theorem mw_2_20 : Cond.superclass "StarWalk$Search" "java/lang/Object" ∈ lw_tbl := tb_2 (List.mem_of_getElem? (i := 20) rfl)
set_option maxRecDepth 4000 in
theorem mw_2_21 : Cond.classLink "StarWalk" 37 "StarWalk$Odds" ∈ lw_tbl := tb_2 (List.mem_of_getElem? (i := 21) rfl)
set_option maxRecDepth 4000 in
theorem mw_2_22 : Cond.instantiable "StarWalk$Odds" 4 ∈ lw_tbl := tb_2 (List.mem_of_getElem? (i := 22) rfl)
set_option maxRecDepth 4000 in
theorem mw_2_23 : Cond.methodLink "StarWalk" 39 yX1_init ∈ lw_tbl := tb_2 (List.mem_of_getElem? (i := 23) rfl)
set_option maxRecDepth 4000 in
theorem mw_2_24 : Cond.instanceMethod yX1_init ∈ lw_tbl := tb_2 (List.mem_of_getElem? (i := 24) rfl)
set_option maxRecDepth 4000 in
theorem mw_2_25 : Cond.code yX1_init prog_3_method_1_code 2 none ∈ lw_tbl := tb_2 (List.mem_of_getElem? (i := 25) rfl)
set_option maxRecDepth 4000 in
theorem mw_2_26 : Cond.methodLink "StarWalk$Odds" 3 objectInit ∈ lw_tbl := tb_2 (List.mem_of_getElem? (i := 26) rfl)
set_option maxRecDepth 4000 in
theorem mw_2_27 : Cond.classLink "StarWalk$Odds" 9 "StarWalk$Night" ∈ lw_tbl := tb_2 (List.mem_of_getElem? (i := 27) rfl)
set_option maxRecDepth 4000 in
theorem mw_2_28 : Cond.methodLink "StarWalk$Odds" 11 yX0_init ∈ lw_tbl := tb_2 (List.mem_of_getElem? (i := 28) rfl)
set_option maxRecDepth 4000 in
theorem mw_2_29 : Cond.classLink "StarWalk$Odds" 18 "StarWalk$Place" ∈ lw_tbl := tb_2 (List.mem_of_getElem? (i := 29) rfl)
set_option maxRecDepth 4000 in
theorem mw_2_30 : Cond.methodLinkNest "StarWalk$Odds" 24 yX2_init "StarWalk" ∈ lw_tbl := tb_2 (List.mem_of_getElem? (i := 30) rfl)
set_option maxRecDepth 4000 in
theorem mw_2_31 : Cond.fieldLink "StarWalk$Odds" 12 "StarWalk$Odds" "night" "LStarWalk$Night;" ∈ lw_tbl := tb_2 (List.mem_of_getElem? (i := 31) rfl)
set_option maxRecDepth 4000 in
theorem mw_2_32 : Cond.fieldLink "StarWalk$Odds" 20 "StarWalk$Odds" "places" "[LStarWalk$Place;" ∈ lw_tbl := tb_2 (List.mem_of_getElem? (i := 32) rfl)
set_option maxRecDepth 4000 in
theorem mw_2_33 : Cond.fieldLink "StarWalk$Odds" 25 "StarWalk$Odds" "tenths" "I" ∈ lw_tbl := tb_2 (List.mem_of_getElem? (i := 33) rfl)
set_option maxRecDepth 4000 in
theorem mw_2_34 : Cond.fieldLink "StarWalk$Odds" 29 "StarWalk$Odds" "ofMiles" "Z" ∈ lw_tbl := tb_2 (List.mem_of_getElem? (i := 34) rfl)
set_option maxRecDepth 4000 in
theorem mw_2_35 : Cond.laysFinal "StarWalk$Odds" "StarWalk$Odds" "night" "LStarWalk$Night;" ∈ lw_tbl := tb_2 (List.mem_of_getElem? (i := 35) rfl)
set_option maxRecDepth 4000 in
theorem mw_2_36 : Cond.soleField "StarWalk$Odds" "night" ∈ lw_tbl := tb_2 (List.mem_of_getElem? (i := 36) rfl)
set_option maxRecDepth 4000 in
theorem mw_2_37 : Cond.laysFinal "StarWalk$Odds" "StarWalk$Odds" "places" "[LStarWalk$Place;" ∈ lw_tbl := tb_2 (List.mem_of_getElem? (i := 37) rfl)
set_option maxRecDepth 4000 in
theorem mw_2_38 : Cond.soleField "StarWalk$Odds" "places" ∈ lw_tbl := tb_2 (List.mem_of_getElem? (i := 38) rfl)
set_option maxRecDepth 4000 in
theorem mw_2_39 : Cond.lays "StarWalk$Odds" "StarWalk$Odds" "tenths" "I" ∈ lw_tbl := tb_2 (List.mem_of_getElem? (i := 39) rfl)
set_option maxRecDepth 4000 in
theorem mw_2_40 : Cond.soleField "StarWalk$Odds" "tenths" ∈ lw_tbl := tb_2 (List.mem_of_getElem? (i := 40) rfl)
set_option maxRecDepth 4000 in
theorem mw_2_41 : Cond.lays "StarWalk$Odds" "StarWalk$Odds" "ofMiles" "Z" ∈ lw_tbl := tb_2 (List.mem_of_getElem? (i := 41) rfl)
set_option maxRecDepth 4000 in
theorem mw_2_42 : Cond.soleField "StarWalk$Odds" "ofMiles" ∈ lw_tbl := tb_2 (List.mem_of_getElem? (i := 42) rfl)
set_option maxRecDepth 4000 in
theorem mw_2_43 : Cond.superclass "StarWalk$Odds" "java/lang/Object" ∈ lw_tbl := tb_2 (List.mem_of_getElem? (i := 43) rfl)
set_option maxRecDepth 4000 in
theorem mw_2_44 : Cond.classLink "StarWalk" 44 "StarWalk$Place" ∈ lw_tbl := tb_2 (List.mem_of_getElem? (i := 44) rfl)
set_option maxRecDepth 4000 in
theorem mw_2_45 : Cond.methodLinkNest "StarWalk" 46 yX2_init "StarWalk" ∈ lw_tbl := tb_2 (List.mem_of_getElem? (i := 45) rfl)
set_option maxRecDepth 4000 in
theorem mw_2_46 : Cond.arrayOver (Jvm.ClassFile.FieldType.object "StarWalk$Night") ∈ lw_tbl := tb_2 (List.mem_of_getElem? (i := 46) rfl)
set_option maxRecDepth 4000 in
theorem mw_2_47 : Cond.classLink "StarWalk" 59 "StarWalk$Sheet" ∈ lw_tbl := tb_2 (List.mem_of_getElem? (i := 47) rfl)
set_option maxRecDepth 4000 in
theorem mw_2_48 : Cond.arrayOver (Jvm.ClassFile.FieldType.object "StarWalk$Sheet") ∈ lw_tbl := tb_2 (List.mem_of_getElem? (i := 48) rfl)
set_option maxRecDepth 4000 in
theorem mw_2_49 : Cond.instantiable "StarWalk$Sheet" 3 ∈ lw_tbl := tb_2 (List.mem_of_getElem? (i := 49) rfl)
set_option maxRecDepth 4000 in
theorem mw_2_50 : Cond.methodLinkNest "StarWalk" 65 yX4_init "StarWalk" ∈ lw_tbl := tb_2 (List.mem_of_getElem? (i := 50) rfl)
set_option maxRecDepth 4000 in
theorem mw_2_51 : Cond.instanceMethod yX4_init ∈ lw_tbl := tb_2 (List.mem_of_getElem? (i := 51) rfl)
set_option maxRecDepth 4000 in
theorem mw_2_52 : Cond.code yX4_init prog_6_method_1_code 1 none ∈ lw_tbl := tb_2 (List.mem_of_getElem? (i := 52) rfl)
set_option maxRecDepth 4000 in
theorem mw_2_53 : Cond.methodLink "StarWalk$Sheet" 3 objectInit ∈ lw_tbl := tb_2 (List.mem_of_getElem? (i := 53) rfl)
set_option maxRecDepth 4000 in
theorem mw_2_54 : Cond.fieldLink "StarWalk$Sheet" 11 "StarWalk$Sheet" "lane" "I" ∈ lw_tbl := tb_2 (List.mem_of_getElem? (i := 54) rfl)
set_option maxRecDepth 4000 in
theorem mw_2_55 : Cond.fieldLink "StarWalk" 299 "StarWalk$Sheet" "lane" "I" ∈ lw_tbl := tb_2 (List.mem_of_getElem? (i := 55) rfl)
set_option maxRecDepth 4000 in
theorem mw_2_56 : Cond.fieldLink "StarWalk$Sheet" 19 "StarWalk$Sheet" "size" "I" ∈ lw_tbl := tb_2 (List.mem_of_getElem? (i := 56) rfl)
set_option maxRecDepth 4000 in
theorem mw_2_57 : Cond.fieldLink "StarWalk" 318 "StarWalk$Sheet" "size" "I" ∈ lw_tbl := tb_2 (List.mem_of_getElem? (i := 57) rfl)
set_option maxRecDepth 4000 in
theorem mw_2_58 : Cond.fieldLink "StarWalk$Sheet" 15 "StarWalk$Sheet" "cells" "[I" ∈ lw_tbl := tb_2 (List.mem_of_getElem? (i := 58) rfl)
set_option maxRecDepth 4000 in
theorem mw_2_59 : Cond.fieldLink "StarWalk" 306 "StarWalk$Sheet" "cells" "[I" ∈ lw_tbl := tb_2 (List.mem_of_getElem? (i := 59) rfl)
set_option maxRecDepth 4000 in
theorem mw_2_60 : Cond.lays "StarWalk$Sheet" "StarWalk$Sheet" "lane" "I" ∈ lw_tbl := tb_2 (List.mem_of_getElem? (i := 60) rfl)
set_option maxRecDepth 4000 in
theorem mw_2_61 : Cond.soleField "StarWalk$Sheet" "lane" ∈ lw_tbl := tb_2 (List.mem_of_getElem? (i := 61) rfl)
set_option maxRecDepth 4000 in
theorem mw_2_62 : Cond.lays "StarWalk$Sheet" "StarWalk$Sheet" "size" "I" ∈ lw_tbl := tb_2 (List.mem_of_getElem? (i := 62) rfl)
set_option maxRecDepth 4000 in
theorem mw_2_63 : Cond.soleField "StarWalk$Sheet" "size" ∈ lw_tbl := tb_2 (List.mem_of_getElem? (i := 63) rfl)
set_option maxRecDepth 4000 in
theorem mw_2_64 : Cond.laysFinal "StarWalk$Sheet" "StarWalk$Sheet" "cells" "[I" ∈ lw_tbl := tb_2 (List.mem_of_getElem? (i := 64) rfl)
set_option maxRecDepth 4000 in
theorem mw_2_65 : Cond.soleField "StarWalk$Sheet" "cells" ∈ lw_tbl := tb_2 (List.mem_of_getElem? (i := 65) rfl)
set_option maxRecDepth 4000 in
theorem mw_2_66 : Cond.superclass "StarWalk$Sheet" "java/lang/Object" ∈ lw_tbl := tb_2 (List.mem_of_getElem? (i := 66) rfl)
set_option maxRecDepth 4000 in
theorem mw_2_67 : Cond.arrayClass Jvm.ClassFile.FieldType.boolean ∈ lw_tbl := tb_2 (List.mem_of_getElem? (i := 67) rfl)
set_option maxRecDepth 4000 in
theorem mw_2_68 : Cond.fieldLink "StarWalk" 10 "StarWalk" "tape" "LStarWalk$Tape;" ∈ lw_tbl := tb_2 (List.mem_of_getElem? (i := 68) rfl)
set_option maxRecDepth 4000 in
theorem mw_2_69 : Cond.fieldLink "StarWalk" 19 "StarWalk" "now" "LStarWalk$Night;" ∈ lw_tbl := tb_2 (List.mem_of_getElem? (i := 69) rfl)
set_option maxRecDepth 4000 in
theorem mw_2_70 : Cond.fieldLink "StarWalk" 26 "StarWalk" "trial" "LStarWalk$Trial;" ∈ lw_tbl := tb_2 (List.mem_of_getElem? (i := 70) rfl)
set_option maxRecDepth 4000 in
theorem mw_2_71 : Cond.fieldLink "StarWalk" 33 "StarWalk" "search" "LStarWalk$Search;" ∈ lw_tbl := tb_2 (List.mem_of_getElem? (i := 71) rfl)
set_option maxRecDepth 4000 in
theorem mw_2_72 : Cond.fieldLink "StarWalk" 40 "StarWalk" "odds" "LStarWalk$Odds;" ∈ lw_tbl := tb_2 (List.mem_of_getElem? (i := 72) rfl)
set_option maxRecDepth 4000 in
theorem mw_2_73 : Cond.fieldLink "StarWalk" 47 "StarWalk" "scratch" "LStarWalk$Place;" ∈ lw_tbl := tb_2 (List.mem_of_getElem? (i := 73) rfl)
set_option maxRecDepth 4000 in
theorem mw_2_74 : Cond.fieldLink "StarWalk" 51 "StarWalk" "images" "[LStarWalk$Night;" ∈ lw_tbl := tb_2 (List.mem_of_getElem? (i := 74) rfl)
set_option maxRecDepth 4000 in
theorem mw_2_75 : Cond.fieldLink "StarWalk" 55 "StarWalk" "kept" "[Z" ∈ lw_tbl := tb_2 (List.mem_of_getElem? (i := 75) rfl)
set_option maxRecDepth 4000 in
theorem mw_2_76 : Cond.fieldLink "StarWalk" 61 "StarWalk" "sheets" "[LStarWalk$Sheet;" ∈ lw_tbl := tb_2 (List.mem_of_getElem? (i := 76) rfl)
set_option maxRecDepth 4000 in
theorem mw_2_77 : Cond.fieldLink "StarWalk" 81 "StarWalk" "latestFault" "I" ∈ lw_tbl := tb_2 (List.mem_of_getElem? (i := 77) rfl)
set_option maxRecDepth 4000 in
theorem mw_2_78 : Cond.fieldLink "StarWalk" 315 "StarWalk" "latestTear" "I" ∈ lw_tbl := tb_2 (List.mem_of_getElem? (i := 78) rfl)
set_option maxRecDepth 4000 in
theorem mw_2_79 : Cond.laysFinal "StarWalk" "StarWalk" "tape" "LStarWalk$Tape;" ∈ lw_tbl := tb_2 (List.mem_of_getElem? (i := 79) rfl)
set_option maxRecDepth 4000 in
theorem mw_2_80 : Cond.soleField "StarWalk" "tape" ∈ lw_tbl := tb_2 (List.mem_of_getElem? (i := 80) rfl)
set_option maxRecDepth 4000 in
theorem mw_2_81 : Cond.laysFinal "StarWalk" "StarWalk" "now" "LStarWalk$Night;" ∈ lw_tbl := tb_2 (List.mem_of_getElem? (i := 81) rfl)
set_option maxRecDepth 4000 in
theorem mw_2_82 : Cond.soleField "StarWalk" "now" ∈ lw_tbl := tb_2 (List.mem_of_getElem? (i := 82) rfl)
set_option maxRecDepth 4000 in
theorem mw_2_83 : Cond.laysFinal "StarWalk" "StarWalk" "trial" "LStarWalk$Trial;" ∈ lw_tbl := tb_2 (List.mem_of_getElem? (i := 83) rfl)
set_option maxRecDepth 4000 in
theorem mw_2_84 : Cond.soleField "StarWalk" "trial" ∈ lw_tbl := tb_2 (List.mem_of_getElem? (i := 84) rfl)
set_option maxRecDepth 4000 in
theorem mw_2_85 : Cond.laysFinal "StarWalk" "StarWalk" "search" "LStarWalk$Search;" ∈ lw_tbl := tb_2 (List.mem_of_getElem? (i := 85) rfl)
set_option maxRecDepth 4000 in
theorem mw_2_86 : Cond.soleField "StarWalk" "search" ∈ lw_tbl := tb_2 (List.mem_of_getElem? (i := 86) rfl)
set_option maxRecDepth 4000 in
theorem mw_2_87 : Cond.laysFinal "StarWalk" "StarWalk" "odds" "LStarWalk$Odds;" ∈ lw_tbl := tb_2 (List.mem_of_getElem? (i := 87) rfl)
set_option maxRecDepth 4000 in
theorem mw_2_88 : Cond.soleField "StarWalk" "odds" ∈ lw_tbl := tb_2 (List.mem_of_getElem? (i := 88) rfl)
set_option maxRecDepth 4000 in
theorem mw_2_89 : Cond.laysFinal "StarWalk" "StarWalk" "scratch" "LStarWalk$Place;" ∈ lw_tbl := tb_2 (List.mem_of_getElem? (i := 89) rfl)
set_option maxRecDepth 4000 in
theorem mw_2_90 : Cond.soleField "StarWalk" "scratch" ∈ lw_tbl := tb_2 (List.mem_of_getElem? (i := 90) rfl)
set_option maxRecDepth 4000 in
theorem mw_2_91 : Cond.laysFinal "StarWalk" "StarWalk" "images" "[LStarWalk$Night;" ∈ lw_tbl := tb_2 (List.mem_of_getElem? (i := 91) rfl)
set_option maxRecDepth 4000 in
theorem mw_2_92 : Cond.soleField "StarWalk" "images" ∈ lw_tbl := tb_2 (List.mem_of_getElem? (i := 92) rfl)
set_option maxRecDepth 4000 in
theorem mw_2_93 : Cond.laysFinal "StarWalk" "StarWalk" "kept" "[Z" ∈ lw_tbl := tb_2 (List.mem_of_getElem? (i := 93) rfl)
set_option maxRecDepth 4000 in
theorem mw_2_94 : Cond.soleField "StarWalk" "kept" ∈ lw_tbl := tb_2 (List.mem_of_getElem? (i := 94) rfl)
set_option maxRecDepth 4000 in
theorem mw_2_95 : Cond.laysFinal "StarWalk" "StarWalk" "sheets" "[LStarWalk$Sheet;" ∈ lw_tbl := tb_2 (List.mem_of_getElem? (i := 95) rfl)
set_option maxRecDepth 4000 in
theorem mw_2_96 : Cond.soleField "StarWalk" "sheets" ∈ lw_tbl := tb_2 (List.mem_of_getElem? (i := 96) rfl)
set_option maxRecDepth 4000 in
theorem mw_2_97 : Cond.lays "StarWalk" "StarWalk" "latestFault" "I" ∈ lw_tbl := tb_2 (List.mem_of_getElem? (i := 97) rfl)
set_option maxRecDepth 4000 in
theorem mw_2_98 : Cond.soleField "StarWalk" "latestFault" ∈ lw_tbl := tb_2 (List.mem_of_getElem? (i := 98) rfl)
set_option maxRecDepth 4000 in
theorem mw_2_99 : Cond.lays "StarWalk" "StarWalk" "latestTear" "I" ∈ lw_tbl := tb_2 (List.mem_of_getElem? (i := 99) rfl)
set_option maxRecDepth 4000 in
theorem mw_2_100 : Cond.soleField "StarWalk" "latestTear" ∈ lw_tbl := tb_2 (List.mem_of_getElem? (i := 100) rfl)
set_option maxRecDepth 4000 in
theorem mw_2_101 : Cond.superclass "StarWalk" "java/lang/Object" ∈ lw_tbl := tb_2 (List.mem_of_getElem? (i := 101) rfl)
set_option maxRecDepth 4000 in
theorem mw_2_102 : Cond.methodLink "StarWalkLaw" 13 yX7_feed ∈ lw_tbl := tb_2 (List.mem_of_getElem? (i := 102) rfl)
set_option maxRecDepth 4000 in
theorem mw_2_103 : Cond.instanceMethod yX7_feed ∈ lw_tbl := tb_2 (List.mem_of_getElem? (i := 103) rfl)
set_option maxRecDepth 4000 in
theorem mw_2_104 : Cond.selects "StarWalk" yX7_feed yX7_feed ∈ lw_tbl := tb_2 (List.mem_of_getElem? (i := 104) rfl)
set_option maxRecDepth 4000 in
theorem mw_2_105 : Cond.code yX7_feed prog_1_method_2_code 2 (some .int) ∈ lw_tbl := tb_2 (List.mem_of_getElem? (i := 105) rfl)
set_option maxRecDepth 4000 in
theorem mw_2_106 : Cond.methodLink "StarWalk" 66 yX5_addByte ∈ lw_tbl := tb_2 (List.mem_of_getElem? (i := 106) rfl)
set_option maxRecDepth 4000 in
theorem mw_2_107 : Cond.instanceMethod yX5_addByte ∈ lw_tbl := tb_2 (List.mem_of_getElem? (i := 107) rfl)
set_option maxRecDepth 4000 in
theorem mw_2_108 : Cond.selects "StarWalk$Tape" yX5_addByte yX5_addByte ∈ lw_tbl := tb_2 (List.mem_of_getElem? (i := 108) rfl)
set_option maxRecDepth 4000 in
theorem mw_2_109 : Cond.code yX5_addByte prog_7_method_2_code 2 (some .boolean) ∈ lw_tbl := tb_2 (List.mem_of_getElem? (i := 109) rfl)
set_option maxRecDepth 4000 in
theorem mw_2_110 : Cond.methodLink "StarWalkLaw" 18 yX7_end ∈ lw_tbl := tb_2 (List.mem_of_getElem? (i := 110) rfl)
set_option maxRecDepth 4000 in
theorem mw_2_111 : Cond.instanceMethod yX7_end ∈ lw_tbl := tb_2 (List.mem_of_getElem? (i := 111) rfl)
set_option maxRecDepth 4000 in
theorem mw_2_112 : Cond.selects "StarWalk" yX7_end yX7_end ∈ lw_tbl := tb_2 (List.mem_of_getElem? (i := 112) rfl)
set_option maxRecDepth 4000 in
theorem mw_2_113 : Cond.code yX7_end prog_1_method_3_code 3 (some .int) ∈ lw_tbl := tb_2 (List.mem_of_getElem? (i := 113) rfl)
set_option maxRecDepth 4000 in
theorem mw_2_114 : Cond.methodLink "StarWalkLaw" 22 yX7_text ∈ lw_tbl := tb_2 (List.mem_of_getElem? (i := 114) rfl)
set_option maxRecDepth 4000 in
theorem mw_2_115 : Cond.instanceMethod yX7_text ∈ lw_tbl := tb_2 (List.mem_of_getElem? (i := 115) rfl)
set_option maxRecDepth 4000 in
theorem mw_2_116 : Cond.selects "StarWalk" yX7_text yX7_text ∈ lw_tbl := tb_2 (List.mem_of_getElem? (i := 116) rfl)
set_option maxRecDepth 4000 in
theorem mw_2_117 : Cond.code yX7_text prog_1_method_4_code 3 (some .int) ∈ lw_tbl := tb_2 (List.mem_of_getElem? (i := 117) rfl)
set_option maxRecDepth 4000 in
theorem mw_2_118 : Cond.methodLink "StarWalk" 74 yX5_readLines ∈ lw_tbl := tb_2 (List.mem_of_getElem? (i := 118) rfl)
set_option maxRecDepth 4000 in
theorem mw_2_119 : Cond.instanceMethod yX5_readLines ∈ lw_tbl := tb_2 (List.mem_of_getElem? (i := 119) rfl)
set_option maxRecDepth 4000 in
theorem mw_2_120 : Cond.selects "StarWalk$Tape" yX5_readLines yX5_readLines ∈ lw_tbl := tb_2 (List.mem_of_getElem? (i := 120) rfl)
set_option maxRecDepth 4000 in
theorem mw_2_121 : Cond.code yX5_readLines prog_7_method_3_code 2 (some .int) ∈ lw_tbl := tb_2 (List.mem_of_getElem? (i := 121) rfl)
set_option maxRecDepth 4000 in
theorem mw_2_122 : Cond.methodLink "StarWalk$Tape" 26 yX0_clear ∈ lw_tbl := tb_2 (List.mem_of_getElem? (i := 122) rfl)
set_option maxRecDepth 4000 in
theorem mw_2_123 : Cond.methodLink "StarWalk$Tape" 41 yX5_takeToken ∈ lw_tbl := tb_2 (List.mem_of_getElem? (i := 123) rfl)
set_option maxRecDepth 4000 in
theorem mw_2_124 : Cond.privateMethod yX5_takeToken ∈ lw_tbl := tb_2 (List.mem_of_getElem? (i := 124) rfl)
set_option maxRecDepth 4000 in
theorem mw_2_125 : Cond.instanceMethod yX5_takeToken ∈ lw_tbl := tb_2 (List.mem_of_getElem? (i := 125) rfl)
set_option maxRecDepth 4000 in
theorem mw_2_126 : Cond.code yX5_takeToken prog_7_method_20_code 3 none ∈ lw_tbl := tb_2 (List.mem_of_getElem? (i := 126) rfl)
set_option maxRecDepth 4000 in
theorem mw_2_127 : Cond.methodLink "StarWalk$Tape" 190 yX5_byteAt ∈ lw_tbl := tb_2 (List.mem_of_getElem? (i := 127) rfl)
set_option maxRecDepth 4000 in
theorem mw_2_128 : Cond.privateMethod yX5_byteAt ∈ lw_tbl := tb_2 (List.mem_of_getElem? (i := 128) rfl)
set_option maxRecDepth 4000 in
theorem mw_2_129 : Cond.instanceMethod yX5_byteAt ∈ lw_tbl := tb_2 (List.mem_of_getElem? (i := 129) rfl)
set_option maxRecDepth 4000 in
theorem mw_2_130 : Cond.code yX5_byteAt prog_7_method_22_code 2 (some .int) ∈ lw_tbl := tb_2 (List.mem_of_getElem? (i := 130) rfl)
set_option maxRecDepth 4000 in
theorem mw_2_131 : Cond.methodLink "StarWalk$Tape" 194 yX5_kindOf ∈ lw_tbl := tb_2 (List.mem_of_getElem? (i := 131) rfl)
set_option maxRecDepth 4000 in
theorem mw_2_132 : Cond.static yX5_kindOf ∈ lw_tbl := tb_2 (List.mem_of_getElem? (i := 132) rfl)
set_option maxRecDepth 4000 in
theorem mw_2_133 : Cond.code yX5_kindOf prog_7_method_21_code 1 (some .int) ∈ lw_tbl := tb_2 (List.mem_of_getElem? (i := 133) rfl)
set_option maxRecDepth 4000 in
theorem mw_2_134 : Cond.methodLink "StarWalk$Tape" 54 yX5_refuse ∈ lw_tbl := tb_2 (List.mem_of_getElem? (i := 134) rfl)
set_option maxRecDepth 4000 in
theorem mw_2_135 : Cond.privateMethod yX5_refuse ∈ lw_tbl := tb_2 (List.mem_of_getElem? (i := 135) rfl)
set_option maxRecDepth 4000 in
theorem mw_2_136 : Cond.instanceMethod yX5_refuse ∈ lw_tbl := tb_2 (List.mem_of_getElem? (i := 136) rfl)
set_option maxRecDepth 4000 in
theorem mw_2_137 : Cond.code yX5_refuse prog_7_method_5_code 3 none ∈ lw_tbl := tb_2 (List.mem_of_getElem? (i := 137) rfl)
set_option maxRecDepth 4000 in
theorem mw_2_138 : Cond.methodLink "StarWalk$Tape" 47 yX5_readLine ∈ lw_tbl := tb_2 (List.mem_of_getElem? (i := 138) rfl)
set_option maxRecDepth 4000 in
theorem mw_2_139 : Cond.privateMethod yX5_readLine ∈ lw_tbl := tb_2 (List.mem_of_getElem? (i := 139) rfl)
set_option maxRecDepth 4000 in
theorem mw_2_140 : Cond.instanceMethod yX5_readLine ∈ lw_tbl := tb_2 (List.mem_of_getElem? (i := 140) rfl)
set_option maxRecDepth 4000 in
theorem mw_2_141 : Cond.code yX5_readLine prog_7_method_6_code 1 none ∈ lw_tbl := tb_2 (List.mem_of_getElem? (i := 141) rfl)
set_option maxRecDepth 4000 in
theorem mw_2_142 : Cond.stringRef "StarWalk$Tape" 75 "star" ∈ lw_tbl := tb_2 (List.mem_of_getElem? (i := 142) rfl)
set_option maxRecDepth 4000 in
theorem mw_2_143 : Cond.methodLink "StarWalk$Tape" 77 yX5_isName ∈ lw_tbl := tb_2 (List.mem_of_getElem? (i := 143) rfl)
set_option maxRecDepth 4000 in
theorem mw_2_144 : Cond.privateMethod yX5_isName ∈ lw_tbl := tb_2 (List.mem_of_getElem? (i := 144) rfl)
set_option maxRecDepth 4000 in
theorem mw_2_145 : Cond.instanceMethod yX5_isName ∈ lw_tbl := tb_2 (List.mem_of_getElem? (i := 145) rfl)
set_option maxRecDepth 4000 in
theorem mw_2_146 : Cond.code yX5_isName prog_7_method_23_code 3 (some .boolean) ∈ lw_tbl := tb_2 (List.mem_of_getElem? (i := 146) rfl)
set_option maxRecDepth 4000 in
theorem mw_2_147 : Cond.methodLink "StarWalk$Tape" 197 yJ0_length_8abf5 ∈ lw_tbl := tb_2 (List.mem_of_getElem? (i := 147) rfl)
set_option maxRecDepth 4000 in
theorem mw_2_148 : Cond.instanceMethod yJ0_length_8abf5 ∈ lw_tbl := tb_2 (List.mem_of_getElem? (i := 148) rfl)
set_option maxRecDepth 4000 in
theorem mw_2_149 : Cond.selects "java/lang/String" yJ0_length_8abf5 yJ0_length_8abf5 ∈ lw_tbl := tb_2 (List.mem_of_getElem? (i := 149) rfl)
set_option maxRecDepth 4000 in
theorem mw_2_150 : Cond.code yJ0_length_8abf5 prog_13_method_54_code 1 (some .int) ∈ lw_tbl := tb_2 (List.mem_of_getElem? (i := 150) rfl)
set_option maxRecDepth 4000 in
theorem mw_2_151 : Cond.methodLink "java/lang/String" 335 yJ0_coder_7d493 ∈ lw_tbl := tb_2 (List.mem_of_getElem? (i := 151) rfl)
set_option maxRecDepth 4000 in
theorem mw_2_152 : Cond.instanceMethod yJ0_coder_7d493 ∈ lw_tbl := tb_2 (List.mem_of_getElem? (i := 152) rfl)
set_option maxRecDepth 4000 in
theorem mw_2_153 : Cond.selects "java/lang/String" yJ0_coder_7d493 yJ0_coder_7d493 ∈ lw_tbl := tb_2 (List.mem_of_getElem? (i := 153) rfl)
set_option maxRecDepth 4000 in
theorem mw_2_154 : Cond.code yJ0_coder_7d493 prog_13_method_152_code 1 (some .byte) ∈ lw_tbl := tb_2 (List.mem_of_getElem? (i := 154) rfl)
set_option maxRecDepth 4000 in
theorem mw_2_155 : Cond.fieldLink "java/lang/String" 38 "java/lang/String" "COMPACT_STRINGS" "Z" ∈ lw_tbl := tb_2 (List.mem_of_getElem? (i := 155) rfl)
set_option maxRecDepth 4000 in
theorem mw_2_156 : Cond.laysStatic "java/lang/String" "COMPACT_STRINGS" "Z" ∈ lw_tbl := tb_2 (List.mem_of_getElem? (i := 156) rfl)
set_option maxRecDepth 4000 in
theorem mw_2_157 : Cond.methodLink "StarWalk$Tape" 202 yJ0_charAt_5068e ∈ lw_tbl := tb_2 (List.mem_of_getElem? (i := 157) rfl)
set_option maxRecDepth 4000 in
theorem mw_2_158 : Cond.instanceMethod yJ0_charAt_5068e ∈ lw_tbl := tb_2 (List.mem_of_getElem? (i := 158) rfl)
set_option maxRecDepth 4000 in
theorem mw_2_159 : Cond.selects "java/lang/String" yJ0_charAt_5068e yJ0_charAt_5068e ∈ lw_tbl := tb_2 (List.mem_of_getElem? (i := 159) rfl)
set_option maxRecDepth 4000 in
theorem mw_2_160 : Cond.code yJ0_charAt_5068e prog_13_method_56_code 2 (some .char) ∈ lw_tbl := tb_2 (List.mem_of_getElem? (i := 160) rfl)
set_option maxRecDepth 4000 in
theorem mw_2_161 : Cond.methodLink "java/lang/String" 492 yJ0_isLatin1_aae02 ∈ lw_tbl := tb_2 (List.mem_of_getElem? (i := 161) rfl)
set_option maxRecDepth 4000 in
theorem mw_2_162 : Cond.instanceMethod yJ0_isLatin1_aae02 ∈ lw_tbl := tb_2 (List.mem_of_getElem? (i := 162) rfl)
set_option maxRecDepth 4000 in
theorem mw_2_163 : Cond.selects "java/lang/String" yJ0_isLatin1_aae02 yJ0_isLatin1_aae02 ∈ lw_tbl := tb_2 (List.mem_of_getElem? (i := 163) rfl)
set_option maxRecDepth 4000 in
theorem mw_2_164 : Cond.code yJ0_isLatin1_aae02 prog_13_method_154_code 1 (some .boolean) ∈ lw_tbl := tb_2 (List.mem_of_getElem? (i := 164) rfl)
set_option maxRecDepth 4000 in
theorem mw_2_165 : Cond.methodLink "java/lang/String" 495 yJ1_charAt_3b067 ∈ lw_tbl := tb_2 (List.mem_of_getElem? (i := 165) rfl)
set_option maxRecDepth 4000 in
theorem mw_2_166 : Cond.static yJ1_charAt_3b067 ∈ lw_tbl := tb_2 (List.mem_of_getElem? (i := 166) rfl)
set_option maxRecDepth 4000 in
theorem mw_2_167 : Cond.code yJ1_charAt_3b067 prog_14_method_2_code 2 (some .char) ∈ lw_tbl := tb_2 (List.mem_of_getElem? (i := 167) rfl)
set_option maxRecDepth 4000 in
theorem mw_2_168 : Cond.methodLink "java/lang/StringLatin1" 9 yJ0_checkIndex_df160 ∈ lw_tbl := tb_2 (List.mem_of_getElem? (i := 168) rfl)
set_option maxRecDepth 4000 in
theorem mw_2_169 : Cond.static yJ0_checkIndex_df160 ∈ lw_tbl := tb_2 (List.mem_of_getElem? (i := 169) rfl)
set_option maxRecDepth 4000 in
theorem mw_2_170 : Cond.code yJ0_checkIndex_df160 prog_13_method_155_code 2 none ∈ lw_tbl := tb_2 (List.mem_of_getElem? (i := 170) rfl)
set_option maxRecDepth 4000 in
theorem mw_2_171 : Cond.fieldLink "java/lang/String" 1053 "jdk/internal/util/Preconditions" "SIOOBE_FORMATTER" "Ljava/util/function/BiFunction;" ∈ lw_tbl := tb_2 (List.mem_of_getElem? (i := 171) rfl)
set_option maxRecDepth 4000 in
theorem mw_2_172 : Cond.laysStatic "jdk/internal/util/Preconditions" "SIOOBE_FORMATTER" "Ljava/util/function/BiFunction;" ∈ lw_tbl := tb_2 (List.mem_of_getElem? (i := 172) rfl)
set_option maxRecDepth 4000 in
theorem mw_2_173 : Cond.methodLink "java/lang/String" 1059 yJ3_checkIndex_8e157 ∈ lw_tbl := tb_2 (List.mem_of_getElem? (i := 173) rfl)
set_option maxRecDepth 4000 in
theorem mw_2_174 : Cond.static yJ3_checkIndex_8e157 ∈ lw_tbl := tb_2 (List.mem_of_getElem? (i := 174) rfl)
set_option maxRecDepth 4000 in
theorem mw_2_175 : Cond.code yJ3_checkIndex_8e157 prog_17_method_11_code 3 (some .int) ∈ lw_tbl := tb_2 (List.mem_of_getElem? (i := 175) rfl)
set_option maxRecDepth 4000 in
theorem mw_2_176 : Cond.methodLink "java/lang/String" 498 yJ2_charAt_3b067 ∈ lw_tbl := tb_2 (List.mem_of_getElem? (i := 176) rfl)
set_option maxRecDepth 4000 in
theorem mw_2_177 : Cond.static yJ2_charAt_3b067 ∈ lw_tbl := tb_2 (List.mem_of_getElem? (i := 177) rfl)
set_option maxRecDepth 4000 in
theorem mw_2_178 : Cond.code yJ2_charAt_3b067 prog_15_method_83_code 2 (some .char) ∈ lw_tbl := tb_2 (List.mem_of_getElem? (i := 178) rfl)
set_option maxRecDepth 4000 in
theorem mw_2_179 : Cond.methodLink "java/lang/StringUTF16" 67 yJ2_checkIndex_2214a ∈ lw_tbl := tb_2 (List.mem_of_getElem? (i := 179) rfl)
set_option maxRecDepth 4000 in
theorem mw_2_180 : Cond.static yJ2_checkIndex_2214a ∈ lw_tbl := tb_2 (List.mem_of_getElem? (i := 180) rfl)
set_option maxRecDepth 4000 in
theorem mw_2_181 : Cond.code yJ2_checkIndex_2214a prog_15_method_91_code 2 none ∈ lw_tbl := tb_2 (List.mem_of_getElem? (i := 181) rfl)
set_option maxRecDepth 4000 in
theorem mw_2_182 : Cond.methodLink "java/lang/StringUTF16" 48 yJ2_length_9d52b ∈ lw_tbl := tb_2 (List.mem_of_getElem? (i := 182) rfl)
set_option maxRecDepth 4000 in
theorem mw_2_183 : Cond.static yJ2_length_9d52b ∈ lw_tbl := tb_2 (List.mem_of_getElem? (i := 183) rfl)
set_option maxRecDepth 4000 in
theorem mw_2_184 : Cond.code yJ2_length_9d52b prog_15_method_6_code 1 (some .int) ∈ lw_tbl := tb_2 (List.mem_of_getElem? (i := 184) rfl)
set_option maxRecDepth 4000 in
theorem mw_2_185 : Cond.methodLink "java/lang/StringUTF16" 414 yJ0_checkIndex_df160 ∈ lw_tbl := tb_2 (List.mem_of_getElem? (i := 185) rfl)
set_option maxRecDepth 4000 in
theorem mw_2_186 : Cond.methodLink "java/lang/StringUTF16" 71 yJ2_getChar_3b067 ∈ lw_tbl := tb_2 (List.mem_of_getElem? (i := 186) rfl)
set_option maxRecDepth 4000 in
theorem mw_2_187 : Cond.static yJ2_getChar_3b067 ∈ lw_tbl := tb_2 (List.mem_of_getElem? (i := 187) rfl)
set_option maxRecDepth 4000 in
theorem mw_2_188 : Cond.code yJ2_getChar_3b067 prog_15_method_5_code 2 (some .char) ∈ lw_tbl := tb_2 (List.mem_of_getElem? (i := 188) rfl)
set_option maxRecDepth 4000 in
theorem mw_2_189 : Cond.fieldLink "java/lang/StringUTF16" 44 "java/lang/StringUTF16" "$assertionsDisabled" "Z" ∈ lw_tbl := tb_2 (List.mem_of_getElem? (i := 189) rfl)
set_option maxRecDepth 4000 in
theorem mw_2_190 : Cond.laysStatic "java/lang/StringUTF16" "$assertionsDisabled" "Z" ∈ lw_tbl := tb_2 (List.mem_of_getElem? (i := 190) rfl)
set_option maxRecDepth 4000 in
theorem mw_2_191 : Cond.fieldLink "java/lang/StringUTF16" 59 "java/lang/StringUTF16" "HI_BYTE_SHIFT" "I" ∈ lw_tbl := tb_2 (List.mem_of_getElem? (i := 191) rfl)
set_option maxRecDepth 4000 in
theorem mw_2_192 : Cond.laysStatic "java/lang/StringUTF16" "HI_BYTE_SHIFT" "I" ∈ lw_tbl := tb_2 (List.mem_of_getElem? (i := 192) rfl)
set_option maxRecDepth 4000 in
theorem mw_2_193 : Cond.fieldLink "java/lang/StringUTF16" 63 "java/lang/StringUTF16" "LO_BYTE_SHIFT" "I" ∈ lw_tbl := tb_2 (List.mem_of_getElem? (i := 193) rfl)
set_option maxRecDepth 4000 in
theorem mw_2_194 : Cond.laysStatic "java/lang/StringUTF16" "LO_BYTE_SHIFT" "I" ∈ lw_tbl := tb_2 (List.mem_of_getElem? (i := 194) rfl)
set_option maxRecDepth 4000 in
theorem mw_2_195 : Cond.methodLink "StarWalk$Tape" 81 yX5_readStar ∈ lw_tbl := tb_2 (List.mem_of_getElem? (i := 195) rfl)
set_option maxRecDepth 4000 in
theorem mw_2_196 : Cond.privateMethod yX5_readStar ∈ lw_tbl := tb_2 (List.mem_of_getElem? (i := 196) rfl)
set_option maxRecDepth 4000 in
theorem mw_2_197 : Cond.instanceMethod yX5_readStar ∈ lw_tbl := tb_2 (List.mem_of_getElem? (i := 197) rfl)
set_option maxRecDepth 4000 in
theorem mw_2_198 : Cond.code yX5_readStar prog_7_method_7_code 4 none ∈ lw_tbl := tb_2 (List.mem_of_getElem? (i := 198) rfl)
set_option maxRecDepth 4000 in
theorem mw_2_199 : Cond.methodLink "StarWalk$Tape" 128 yX5_takeNumber ∈ lw_tbl := tb_2 (List.mem_of_getElem? (i := 199) rfl)
set_option maxRecDepth 4000 in
theorem mw_2_200 : Cond.privateMethod yX5_takeNumber ∈ lw_tbl := tb_2 (List.mem_of_getElem? (i := 200) rfl)
set_option maxRecDepth 4000 in
theorem mw_2_201 : Cond.instanceMethod yX5_takeNumber ∈ lw_tbl := tb_2 (List.mem_of_getElem? (i := 201) rfl)
set_option maxRecDepth 4000 in
theorem mw_2_202 : Cond.code yX5_takeNumber prog_7_method_16_code 3 (some .int) ∈ lw_tbl := tb_2 (List.mem_of_getElem? (i := 202) rfl)
set_option maxRecDepth 4000 in
theorem mw_2_203 : Cond.methodLink "StarWalk$Tape" 187 yX5_need ∈ lw_tbl := tb_2 (List.mem_of_getElem? (i := 203) rfl)
set_option maxRecDepth 4000 in
theorem mw_2_204 : Cond.privateMethod yX5_need ∈ lw_tbl := tb_2 (List.mem_of_getElem? (i := 204) rfl)
set_option maxRecDepth 4000 in
theorem mw_2_205 : Cond.instanceMethod yX5_need ∈ lw_tbl := tb_2 (List.mem_of_getElem? (i := 205) rfl)
set_option maxRecDepth 4000 in
theorem mw_2_206 : Cond.code yX5_need prog_7_method_18_code 2 none ∈ lw_tbl := tb_2 (List.mem_of_getElem? (i := 206) rfl)
set_option maxRecDepth 4000 in
theorem mw_2_207 : Cond.methodLink "StarWalk$Tape" 178 yX5_needWithin ∈ lw_tbl := tb_2 (List.mem_of_getElem? (i := 207) rfl)
set_option maxRecDepth 4000 in
theorem mw_2_208 : Cond.privateMethod yX5_needWithin ∈ lw_tbl := tb_2 (List.mem_of_getElem? (i := 208) rfl)
set_option maxRecDepth 4000 in
theorem mw_2_209 : Cond.instanceMethod yX5_needWithin ∈ lw_tbl := tb_2 (List.mem_of_getElem? (i := 209) rfl)
set_option maxRecDepth 4000 in
theorem mw_2_210 : Cond.code yX5_needWithin prog_7_method_19_code 3 none ∈ lw_tbl := tb_2 (List.mem_of_getElem? (i := 210) rfl)
set_option maxRecDepth 4000 in
theorem mw_2_211 : Cond.methodLink "StarWalk$Tape" 132 yX5_takeStop ∈ lw_tbl := tb_2 (List.mem_of_getElem? (i := 211) rfl)
set_option maxRecDepth 4000 in
theorem mw_2_212 : Cond.privateMethod yX5_takeStop ∈ lw_tbl := tb_2 (List.mem_of_getElem? (i := 212) rfl)
set_option maxRecDepth 4000 in
theorem mw_2_213 : Cond.instanceMethod yX5_takeStop ∈ lw_tbl := tb_2 (List.mem_of_getElem? (i := 213) rfl)
set_option maxRecDepth 4000 in
theorem mw_2_214 : Cond.code yX5_takeStop prog_7_method_17_code 1 none ∈ lw_tbl := tb_2 (List.mem_of_getElem? (i := 214) rfl)
set_option maxRecDepth 4000 in
theorem mw_2_215 : Cond.methodLink "StarWalk$Tape" 135 yX0_addStar ∈ lw_tbl := tb_2 (List.mem_of_getElem? (i := 215) rfl)
set_option maxRecDepth 4000 in
theorem mw_2_216 : Cond.instanceMethod yX0_addStar ∈ lw_tbl := tb_2 (List.mem_of_getElem? (i := 216) rfl)
set_option maxRecDepth 4000 in
theorem mw_2_217 : Cond.selects "StarWalk$Night" yX0_addStar yX0_addStar ∈ lw_tbl := tb_2 (List.mem_of_getElem? (i := 217) rfl)
set_option maxRecDepth 4000 in
theorem mw_2_218 : Cond.code yX0_addStar prog_2_method_10_code 4 (some .boolean) ∈ lw_tbl := tb_2 (List.mem_of_getElem? (i := 218) rfl)
set_option maxRecDepth 4000 in
theorem mw_2_219 : Cond.stringRef "StarWalk$Tape" 84 "known" ∈ lw_tbl := tb_2 (List.mem_of_getElem? (i := 219) rfl)
set_option maxRecDepth 4000 in
theorem mw_2_220 : Cond.methodLink "StarWalk$Tape" 85 yX5_readKnown ∈ lw_tbl := tb_2 (List.mem_of_getElem? (i := 220) rfl)
set_option maxRecDepth 4000 in
theorem mw_2_221 : Cond.privateMethod yX5_readKnown ∈ lw_tbl := tb_2 (List.mem_of_getElem? (i := 221) rfl)
set_option maxRecDepth 4000 in
theorem mw_2_222 : Cond.instanceMethod yX5_readKnown ∈ lw_tbl := tb_2 (List.mem_of_getElem? (i := 222) rfl)
set_option maxRecDepth 4000 in
theorem mw_2_223 : Cond.code yX5_readKnown prog_7_method_8_code 2 none ∈ lw_tbl := tb_2 (List.mem_of_getElem? (i := 223) rfl)
set_option maxRecDepth 4000 in
theorem mw_2_224 : Cond.methodLink "StarWalk$Tape" 139 yX0_isKnown ∈ lw_tbl := tb_2 (List.mem_of_getElem? (i := 224) rfl)
set_option maxRecDepth 4000 in
theorem mw_2_225 : Cond.instanceMethod yX0_isKnown ∈ lw_tbl := tb_2 (List.mem_of_getElem? (i := 225) rfl)
set_option maxRecDepth 4000 in
theorem mw_2_226 : Cond.selects "StarWalk$Night" yX0_isKnown yX0_isKnown ∈ lw_tbl := tb_2 (List.mem_of_getElem? (i := 226) rfl)
set_option maxRecDepth 4000 in
theorem mw_2_227 : Cond.code yX0_isKnown prog_2_method_8_code 2 (some .boolean) ∈ lw_tbl := tb_2 (List.mem_of_getElem? (i := 227) rfl)
set_option maxRecDepth 4000 in
theorem mw_2_228 : Cond.methodLinkNest "StarWalk$Tape" 142 yX7_withBit "StarWalk" ∈ lw_tbl := tb_2 (List.mem_of_getElem? (i := 228) rfl)
set_option maxRecDepth 4000 in
theorem mw_2_229 : Cond.static yX7_withBit ∈ lw_tbl := tb_2 (List.mem_of_getElem? (i := 229) rfl)
set_option maxRecDepth 4000 in
theorem mw_2_230 : Cond.code yX7_withBit prog_1_method_47_code 3 (some .int) ∈ lw_tbl := tb_2 (List.mem_of_getElem? (i := 230) rfl)
set_option maxRecDepth 4000 in
theorem mw_2_231 : Cond.stringRef "StarWalk$Tape" 88 "plain" ∈ lw_tbl := tb_2 (List.mem_of_getElem? (i := 231) rfl)
set_option maxRecDepth 4000 in
theorem mw_2_232 : Cond.methodLink "StarWalk$Tape" 90 yX5_readWalker ∈ lw_tbl := tb_2 (List.mem_of_getElem? (i := 232) rfl)
set_option maxRecDepth 4000 in
theorem mw_2_233 : Cond.privateMethod yX5_readWalker ∈ lw_tbl := tb_2 (List.mem_of_getElem? (i := 233) rfl)
set_option maxRecDepth 4000 in
theorem mw_2_234 : Cond.instanceMethod yX5_readWalker ∈ lw_tbl := tb_2 (List.mem_of_getElem? (i := 234) rfl)
set_option maxRecDepth 4000 in
theorem mw_2_235 : Cond.code yX5_readWalker prog_7_method_9_code 2 none ∈ lw_tbl := tb_2 (List.mem_of_getElem? (i := 235) rfl)
set_option maxRecDepth 4000 in
theorem mw_2_236 : Cond.methodLink "StarWalk$Tape" 149 yX0_addWalker ∈ lw_tbl := tb_2 (List.mem_of_getElem? (i := 236) rfl)
set_option maxRecDepth 4000 in
theorem mw_2_237 : Cond.instanceMethod yX0_addWalker ∈ lw_tbl := tb_2 (List.mem_of_getElem? (i := 237) rfl)
set_option maxRecDepth 4000 in
theorem mw_2_238 : Cond.selects "StarWalk$Night" yX0_addWalker yX0_addWalker ∈ lw_tbl := tb_2 (List.mem_of_getElem? (i := 238) rfl)
set_option maxRecDepth 4000 in
theorem mw_2_239 : Cond.code yX0_addWalker prog_2_method_11_code 2 (some .boolean) ∈ lw_tbl := tb_2 (List.mem_of_getElem? (i := 239) rfl)
set_option maxRecDepth 4000 in
theorem mw_3_0 : Cond.stringRef "StarWalk$Tape" 94 "lame" ∈ lw_tbl := tb_3 (List.mem_of_getElem? (i := 0) rfl)
set_option maxRecDepth 4000 in
theorem mw_3_1 : Cond.stringRef "StarWalk$Tape" 96 "tired" ∈ lw_tbl := tb_3 (List.mem_of_getElem? (i := 1) rfl)
set_option maxRecDepth 4000 in
theorem mw_3_2 : Cond.stringRef "StarWalk$Tape" 98 "guide" ∈ lw_tbl := tb_3 (List.mem_of_getElem? (i := 2) rfl)
set_option maxRecDepth 4000 in
theorem mw_3_3 : Cond.stringRef "StarWalk$Tape" 100 "well" ∈ lw_tbl := tb_3 (List.mem_of_getElem? (i := 3) rfl)
set_option maxRecDepth 4000 in
theorem mw_3_4 : Cond.methodLink "StarWalk$Tape" 102 yX5_readWell ∈ lw_tbl := tb_3 (List.mem_of_getElem? (i := 4) rfl)
set_option maxRecDepth 4000 in
theorem mw_3_5 : Cond.privateMethod yX5_readWell ∈ lw_tbl := tb_3 (List.mem_of_getElem? (i := 5) rfl)
set_option maxRecDepth 4000 in
theorem mw_3_6 : Cond.instanceMethod yX5_readWell ∈ lw_tbl := tb_3 (List.mem_of_getElem? (i := 6) rfl)
set_option maxRecDepth 4000 in
theorem mw_3_7 : Cond.code yX5_readWell prog_7_method_10_code 1 none ∈ lw_tbl := tb_3 (List.mem_of_getElem? (i := 7) rfl)
set_option maxRecDepth 4000 in
theorem mw_3_8 : Cond.methodLink "StarWalk$Tape" 152 yX5_tellOnce ∈ lw_tbl := tb_3 (List.mem_of_getElem? (i := 8) rfl)
set_option maxRecDepth 4000 in
theorem mw_3_9 : Cond.privateMethod yX5_tellOnce ∈ lw_tbl := tb_3 (List.mem_of_getElem? (i := 9) rfl)
set_option maxRecDepth 4000 in
theorem mw_3_10 : Cond.instanceMethod yX5_tellOnce ∈ lw_tbl := tb_3 (List.mem_of_getElem? (i := 10) rfl)
set_option maxRecDepth 4000 in
theorem mw_3_11 : Cond.code yX5_tellOnce prog_7_method_15_code 2 none ∈ lw_tbl := tb_3 (List.mem_of_getElem? (i := 11) rfl)
set_option maxRecDepth 4000 in
theorem mw_3_12 : Cond.stringRef "StarWalk$Tape" 105 "wind" ∈ lw_tbl := tb_3 (List.mem_of_getElem? (i := 12) rfl)
set_option maxRecDepth 4000 in
theorem mw_3_13 : Cond.methodLink "StarWalk$Tape" 107 yX5_readWind ∈ lw_tbl := tb_3 (List.mem_of_getElem? (i := 13) rfl)
set_option maxRecDepth 4000 in
theorem mw_3_14 : Cond.privateMethod yX5_readWind ∈ lw_tbl := tb_3 (List.mem_of_getElem? (i := 14) rfl)
set_option maxRecDepth 4000 in
theorem mw_3_15 : Cond.instanceMethod yX5_readWind ∈ lw_tbl := tb_3 (List.mem_of_getElem? (i := 15) rfl)
set_option maxRecDepth 4000 in
theorem mw_3_16 : Cond.code yX5_readWind prog_7_method_11_code 1 none ∈ lw_tbl := tb_3 (List.mem_of_getElem? (i := 16) rfl)
set_option maxRecDepth 4000 in
theorem mw_3_17 : Cond.stringRef "StarWalk$Tape" 110 "water" ∈ lw_tbl := tb_3 (List.mem_of_getElem? (i := 17) rfl)
set_option maxRecDepth 4000 in
theorem mw_3_18 : Cond.methodLink "StarWalk$Tape" 112 yX5_readWater ∈ lw_tbl := tb_3 (List.mem_of_getElem? (i := 18) rfl)
set_option maxRecDepth 4000 in
theorem mw_3_19 : Cond.privateMethod yX5_readWater ∈ lw_tbl := tb_3 (List.mem_of_getElem? (i := 19) rfl)
set_option maxRecDepth 4000 in
theorem mw_3_20 : Cond.instanceMethod yX5_readWater ∈ lw_tbl := tb_3 (List.mem_of_getElem? (i := 20) rfl)
set_option maxRecDepth 4000 in
theorem mw_3_21 : Cond.code yX5_readWater prog_7_method_12_code 1 none ∈ lw_tbl := tb_3 (List.mem_of_getElem? (i := 21) rfl)
set_option maxRecDepth 4000 in
theorem mw_3_22 : Cond.stringRef "StarWalk$Tape" 115 "cloud" ∈ lw_tbl := tb_3 (List.mem_of_getElem? (i := 22) rfl)
set_option maxRecDepth 4000 in
theorem mw_3_23 : Cond.methodLink "StarWalk$Tape" 117 yX5_readCloud ∈ lw_tbl := tb_3 (List.mem_of_getElem? (i := 23) rfl)
set_option maxRecDepth 4000 in
theorem mw_3_24 : Cond.privateMethod yX5_readCloud ∈ lw_tbl := tb_3 (List.mem_of_getElem? (i := 24) rfl)
set_option maxRecDepth 4000 in
theorem mw_3_25 : Cond.instanceMethod yX5_readCloud ∈ lw_tbl := tb_3 (List.mem_of_getElem? (i := 25) rfl)
set_option maxRecDepth 4000 in
theorem mw_3_26 : Cond.code yX5_readCloud prog_7_method_13_code 2 none ∈ lw_tbl := tb_3 (List.mem_of_getElem? (i := 26) rfl)
set_option maxRecDepth 4000 in
theorem mw_3_27 : Cond.methodLink "StarWalk$Tape" 172 yX0_isCloudy ∈ lw_tbl := tb_3 (List.mem_of_getElem? (i := 27) rfl)
set_option maxRecDepth 4000 in
theorem mw_3_28 : Cond.instanceMethod yX0_isCloudy ∈ lw_tbl := tb_3 (List.mem_of_getElem? (i := 28) rfl)
set_option maxRecDepth 4000 in
theorem mw_3_29 : Cond.selects "StarWalk$Night" yX0_isCloudy yX0_isCloudy ∈ lw_tbl := tb_3 (List.mem_of_getElem? (i := 29) rfl)
set_option maxRecDepth 4000 in
theorem mw_3_30 : Cond.code yX0_isCloudy prog_2_method_9_code 2 (some .boolean) ∈ lw_tbl := tb_3 (List.mem_of_getElem? (i := 30) rfl)
set_option maxRecDepth 4000 in
theorem mw_3_31 : Cond.stringRef "StarWalk$Tape" 120 "plan" ∈ lw_tbl := tb_3 (List.mem_of_getElem? (i := 31) rfl)
set_option maxRecDepth 4000 in
theorem mw_3_32 : Cond.methodLink "StarWalk$Tape" 122 yX5_readPlan ∈ lw_tbl := tb_3 (List.mem_of_getElem? (i := 32) rfl)
set_option maxRecDepth 4000 in
theorem mw_3_33 : Cond.privateMethod yX5_readPlan ∈ lw_tbl := tb_3 (List.mem_of_getElem? (i := 33) rfl)
set_option maxRecDepth 4000 in
theorem mw_3_34 : Cond.instanceMethod yX5_readPlan ∈ lw_tbl := tb_3 (List.mem_of_getElem? (i := 34) rfl)
set_option maxRecDepth 4000 in
theorem mw_3_35 : Cond.code yX5_readPlan prog_7_method_14_code 2 none ∈ lw_tbl := tb_3 (List.mem_of_getElem? (i := 35) rfl)
set_option maxRecDepth 4000 in
theorem mw_3_36 : Cond.methodLink "StarWalk$Tape" 184 yX0_addAim ∈ lw_tbl := tb_3 (List.mem_of_getElem? (i := 36) rfl)
set_option maxRecDepth 4000 in
theorem mw_3_37 : Cond.instanceMethod yX0_addAim ∈ lw_tbl := tb_3 (List.mem_of_getElem? (i := 37) rfl)
set_option maxRecDepth 4000 in
theorem mw_3_38 : Cond.selects "StarWalk$Night" yX0_addAim yX0_addAim ∈ lw_tbl := tb_3 (List.mem_of_getElem? (i := 38) rfl)
set_option maxRecDepth 4000 in
theorem mw_3_39 : Cond.code yX0_addAim prog_2_method_12_code 2 (some .boolean) ∈ lw_tbl := tb_3 (List.mem_of_getElem? (i := 39) rfl)
set_option maxRecDepth 4000 in
theorem mw_3_40 : Cond.methodLink "StarWalk$Tape" 50 yX5_namesNoStar ∈ lw_tbl := tb_3 (List.mem_of_getElem? (i := 40) rfl)
set_option maxRecDepth 4000 in
theorem mw_3_41 : Cond.privateMethod yX5_namesNoStar ∈ lw_tbl := tb_3 (List.mem_of_getElem? (i := 41) rfl)
set_option maxRecDepth 4000 in
theorem mw_3_42 : Cond.instanceMethod yX5_namesNoStar ∈ lw_tbl := tb_3 (List.mem_of_getElem? (i := 42) rfl)
set_option maxRecDepth 4000 in
theorem mw_3_43 : Cond.code yX5_namesNoStar prog_7_method_4_code 2 (some .boolean) ∈ lw_tbl := tb_3 (List.mem_of_getElem? (i := 43) rfl)
set_option maxRecDepth 4000 in
theorem mw_3_44 : Cond.methodLink "StarWalk$Tape" 64 yX0_hasPlanned ∈ lw_tbl := tb_3 (List.mem_of_getElem? (i := 44) rfl)
set_option maxRecDepth 4000 in
theorem mw_3_45 : Cond.instanceMethod yX0_hasPlanned ∈ lw_tbl := tb_3 (List.mem_of_getElem? (i := 45) rfl)
set_option maxRecDepth 4000 in
theorem mw_3_46 : Cond.selects "StarWalk$Night" yX0_hasPlanned yX0_hasPlanned ∈ lw_tbl := tb_3 (List.mem_of_getElem? (i := 46) rfl)
set_option maxRecDepth 4000 in
theorem mw_3_47 : Cond.code yX0_hasPlanned prog_2_method_6_code 2 (some .boolean) ∈ lw_tbl := tb_3 (List.mem_of_getElem? (i := 47) rfl)
set_option maxRecDepth 4000 in
theorem mw_3_48 : Cond.methodLink "StarWalk$Tape" 72 yX0_hasAim ∈ lw_tbl := tb_3 (List.mem_of_getElem? (i := 48) rfl)
set_option maxRecDepth 4000 in
theorem mw_3_49 : Cond.instanceMethod yX0_hasAim ∈ lw_tbl := tb_3 (List.mem_of_getElem? (i := 49) rfl)
set_option maxRecDepth 4000 in
theorem mw_3_50 : Cond.selects "StarWalk$Night" yX0_hasAim yX0_hasAim ∈ lw_tbl := tb_3 (List.mem_of_getElem? (i := 50) rfl)
set_option maxRecDepth 4000 in
theorem mw_3_51 : Cond.code yX0_hasAim prog_2_method_7_code 2 (some .boolean) ∈ lw_tbl := tb_3 (List.mem_of_getElem? (i := 51) rfl)
set_option maxRecDepth 4000 in
theorem mw_3_52 : Cond.methodLink "StarWalk$Night" 96 yX0_hasStar ∈ lw_tbl := tb_3 (List.mem_of_getElem? (i := 52) rfl)
set_option maxRecDepth 4000 in
theorem mw_3_53 : Cond.instanceMethod yX0_hasStar ∈ lw_tbl := tb_3 (List.mem_of_getElem? (i := 53) rfl)
set_option maxRecDepth 4000 in
theorem mw_3_54 : Cond.selects "StarWalk$Night" yX0_hasStar yX0_hasStar ∈ lw_tbl := tb_3 (List.mem_of_getElem? (i := 54) rfl)
set_option maxRecDepth 4000 in
theorem mw_3_55 : Cond.code yX0_hasStar prog_2_method_4_code 2 (some .boolean) ∈ lw_tbl := tb_3 (List.mem_of_getElem? (i := 55) rfl)
set_option maxRecDepth 4000 in
theorem mw_3_56 : Cond.methodLink "StarWalk" 90 yX0_become ∈ lw_tbl := tb_3 (List.mem_of_getElem? (i := 56) rfl)
set_option maxRecDepth 4000 in
theorem mw_3_57 : Cond.instanceMethod yX0_become ∈ lw_tbl := tb_3 (List.mem_of_getElem? (i := 57) rfl)
set_option maxRecDepth 4000 in
theorem mw_3_58 : Cond.selects "StarWalk$Night" yX0_become yX0_become ∈ lw_tbl := tb_3 (List.mem_of_getElem? (i := 58) rfl)
set_option maxRecDepth 4000 in
theorem mw_3_59 : Cond.code yX0_become prog_2_method_3_code 2 none ∈ lw_tbl := tb_3 (List.mem_of_getElem? (i := 59) rfl)
set_option maxRecDepth 4000 in
theorem mw_3_60 : Cond.methodLink "StarWalk$Night" 86 yX2_become ∈ lw_tbl := tb_3 (List.mem_of_getElem? (i := 60) rfl)
set_option maxRecDepth 4000 in
theorem mw_3_61 : Cond.instanceMethod yX2_become ∈ lw_tbl := tb_3 (List.mem_of_getElem? (i := 61) rfl)
set_option maxRecDepth 4000 in
theorem mw_3_62 : Cond.selects "StarWalk$Place" yX2_become yX2_become ∈ lw_tbl := tb_3 (List.mem_of_getElem? (i := 62) rfl)
set_option maxRecDepth 4000 in
theorem mw_3_63 : Cond.code yX2_become prog_4_method_2_code 2 none ∈ lw_tbl := tb_3 (List.mem_of_getElem? (i := 63) rfl)
set_option maxRecDepth 4000 in
theorem mw_3_64 : Cond.methodLink "StarWalk$Night" 90 ⟨"java/lang/System", "arraycopy", "(Ljava/lang/Object;ILjava/lang/Object;II)V"⟩ ∈ lw_tbl := tb_3 (List.mem_of_getElem? (i := 64) rfl)
set_option maxRecDepth 4000 in
theorem mw_3_65 : Cond.static ⟨"java/lang/System", "arraycopy", "(Ljava/lang/Object;ILjava/lang/Object;II)V"⟩ ∈ lw_tbl := tb_3 (List.mem_of_getElem? (i := 65) rfl)
set_option maxRecDepth 4000 in
theorem mw_3_66 : Cond.native ⟨"java/lang/System", "arraycopy", "(Ljava/lang/Object;ILjava/lang/Object;II)V"⟩ ∈ lw_tbl := tb_3 (List.mem_of_getElem? (i := 66) rfl)
set_option maxRecDepth 4000 in
theorem mw_3_67 : Cond.methodLink "StarWalkLaw" 27 yX7_fault ∈ lw_tbl := tb_3 (List.mem_of_getElem? (i := 67) rfl)
set_option maxRecDepth 4000 in
theorem mw_3_68 : Cond.instanceMethod yX7_fault ∈ lw_tbl := tb_3 (List.mem_of_getElem? (i := 68) rfl)
set_option maxRecDepth 4000 in
theorem mw_3_69 : Cond.selects "StarWalk" yX7_fault yX7_fault ∈ lw_tbl := tb_3 (List.mem_of_getElem? (i := 69) rfl)
set_option maxRecDepth 4000 in
theorem mw_3_70 : Cond.code yX7_fault prog_1_method_5_code 1 (some .int) ∈ lw_tbl := tb_3 (List.mem_of_getElem? (i := 70) rfl)
set_option maxRecDepth 4000 in
theorem mw_3_71 : Cond.methodLink "StarWalkLaw" 31 yX7_rule ∈ lw_tbl := tb_3 (List.mem_of_getElem? (i := 71) rfl)
set_option maxRecDepth 4000 in
theorem mw_3_72 : Cond.instanceMethod yX7_rule ∈ lw_tbl := tb_3 (List.mem_of_getElem? (i := 72) rfl)
set_option maxRecDepth 4000 in
theorem mw_3_73 : Cond.selects "StarWalk" yX7_rule yX7_rule ∈ lw_tbl := tb_3 (List.mem_of_getElem? (i := 73) rfl)
set_option maxRecDepth 4000 in
theorem mw_3_74 : Cond.code yX7_rule prog_1_method_6_code 2 (some .int) ∈ lw_tbl := tb_3 (List.mem_of_getElem? (i := 74) rfl)
set_option maxRecDepth 4000 in
theorem mw_3_75 : Cond.methodLink "StarWalk" 130 yX0_isAtWell ∈ lw_tbl := tb_3 (List.mem_of_getElem? (i := 75) rfl)
set_option maxRecDepth 4000 in
theorem mw_3_76 : Cond.instanceMethod yX0_isAtWell ∈ lw_tbl := tb_3 (List.mem_of_getElem? (i := 76) rfl)
set_option maxRecDepth 4000 in
theorem mw_3_77 : Cond.selects "StarWalk$Night" yX0_isAtWell yX0_isAtWell ∈ lw_tbl := tb_3 (List.mem_of_getElem? (i := 77) rfl)
set_option maxRecDepth 4000 in
theorem mw_3_78 : Cond.code yX0_isAtWell prog_2_method_16_code 2 (some .boolean) ∈ lw_tbl := tb_3 (List.mem_of_getElem? (i := 78) rfl)
set_option maxRecDepth 4000 in
theorem mw_3_79 : Cond.methodLink "StarWalk$Night" 113 yX0_isWithinBroad ∈ lw_tbl := tb_3 (List.mem_of_getElem? (i := 79) rfl)
set_option maxRecDepth 4000 in
theorem mw_3_80 : Cond.instanceMethod yX0_isWithinBroad ∈ lw_tbl := tb_3 (List.mem_of_getElem? (i := 80) rfl)
set_option maxRecDepth 4000 in
theorem mw_3_81 : Cond.selects "StarWalk$Night" yX0_isWithinBroad yX0_isWithinBroad ∈ lw_tbl := tb_3 (List.mem_of_getElem? (i := 81) rfl)
set_option maxRecDepth 4000 in
theorem mw_3_82 : Cond.code yX0_isWithinBroad prog_2_method_15_code 2 (some .boolean) ∈ lw_tbl := tb_3 (List.mem_of_getElem? (i := 82) rfl)
set_option maxRecDepth 4000 in
theorem mw_3_83 : Cond.methodLink "StarWalk$Night" 107 yJ9_abs_0f7a4 ∈ lw_tbl := tb_3 (List.mem_of_getElem? (i := 83) rfl)
set_option maxRecDepth 4000 in
theorem mw_3_84 : Cond.static yJ9_abs_0f7a4 ∈ lw_tbl := tb_3 (List.mem_of_getElem? (i := 84) rfl)
set_option maxRecDepth 4000 in
theorem mw_3_85 : Cond.code yJ9_abs_0f7a4 prog_12_method_59_code 1 (some .int) ∈ lw_tbl := tb_3 (List.mem_of_getElem? (i := 85) rfl)
set_option maxRecDepth 4000 in
theorem mw_3_86 : Cond.methodLink "StarWalk" 134 yX7_oneIf ∈ lw_tbl := tb_3 (List.mem_of_getElem? (i := 86) rfl)
set_option maxRecDepth 4000 in
theorem mw_3_87 : Cond.static yX7_oneIf ∈ lw_tbl := tb_3 (List.mem_of_getElem? (i := 87) rfl)
set_option maxRecDepth 4000 in
theorem mw_3_88 : Cond.code yX7_oneIf prog_1_method_46_code 1 (some .int) ∈ lw_tbl := tb_3 (List.mem_of_getElem? (i := 88) rfl)
set_option maxRecDepth 4000 in
theorem mw_3_89 : Cond.methodLink "StarWalkLaw" 35 yX7_star ∈ lw_tbl := tb_3 (List.mem_of_getElem? (i := 89) rfl)
set_option maxRecDepth 4000 in
theorem mw_3_90 : Cond.instanceMethod yX7_star ∈ lw_tbl := tb_3 (List.mem_of_getElem? (i := 90) rfl)
set_option maxRecDepth 4000 in
theorem mw_3_91 : Cond.selects "StarWalk" yX7_star yX7_star ∈ lw_tbl := tb_3 (List.mem_of_getElem? (i := 91) rfl)
set_option maxRecDepth 4000 in
theorem mw_3_92 : Cond.code yX7_star prog_1_method_7_code 3 (some .int) ∈ lw_tbl := tb_3 (List.mem_of_getElem? (i := 92) rfl)
set_option maxRecDepth 4000 in
theorem mw_3_93 : Cond.methodLink "StarWalk" 141 yX0_hasStar ∈ lw_tbl := tb_3 (List.mem_of_getElem? (i := 93) rfl)
set_option maxRecDepth 4000 in
theorem mw_3_94 : Cond.methodLink "StarWalk" 154 yX0_isKnown ∈ lw_tbl := tb_3 (List.mem_of_getElem? (i := 94) rfl)
set_option maxRecDepth 4000 in
theorem mw_3_95 : Cond.methodLink "StarWalkLaw" 40 yX7_walker ∈ lw_tbl := tb_3 (List.mem_of_getElem? (i := 95) rfl)
set_option maxRecDepth 4000 in
theorem mw_3_96 : Cond.instanceMethod yX7_walker ∈ lw_tbl := tb_3 (List.mem_of_getElem? (i := 96) rfl)
set_option maxRecDepth 4000 in
theorem mw_3_97 : Cond.selects "StarWalk" yX7_walker yX7_walker ∈ lw_tbl := tb_3 (List.mem_of_getElem? (i := 97) rfl)
set_option maxRecDepth 4000 in
theorem mw_3_98 : Cond.code yX7_walker prog_1_method_8_code 2 (some .int) ∈ lw_tbl := tb_3 (List.mem_of_getElem? (i := 98) rfl)
set_option maxRecDepth 4000 in
theorem mw_3_99 : Cond.methodLink "StarWalk" 157 yX0_hasWalker ∈ lw_tbl := tb_3 (List.mem_of_getElem? (i := 99) rfl)
set_option maxRecDepth 4000 in
theorem mw_3_100 : Cond.instanceMethod yX0_hasWalker ∈ lw_tbl := tb_3 (List.mem_of_getElem? (i := 100) rfl)
set_option maxRecDepth 4000 in
theorem mw_3_101 : Cond.selects "StarWalk$Night" yX0_hasWalker yX0_hasWalker ∈ lw_tbl := tb_3 (List.mem_of_getElem? (i := 101) rfl)
set_option maxRecDepth 4000 in
theorem mw_3_102 : Cond.code yX0_hasWalker prog_2_method_5_code 2 (some .boolean) ∈ lw_tbl := tb_3 (List.mem_of_getElem? (i := 102) rfl)
set_option maxRecDepth 4000 in
theorem mw_3_103 : Cond.methodLink "StarWalkLaw" 44 yX7_plan ∈ lw_tbl := tb_3 (List.mem_of_getElem? (i := 103) rfl)
set_option maxRecDepth 4000 in
theorem mw_3_104 : Cond.instanceMethod yX7_plan ∈ lw_tbl := tb_3 (List.mem_of_getElem? (i := 104) rfl)
set_option maxRecDepth 4000 in
theorem mw_3_105 : Cond.selects "StarWalk" yX7_plan yX7_plan ∈ lw_tbl := tb_3 (List.mem_of_getElem? (i := 105) rfl)
set_option maxRecDepth 4000 in
theorem mw_3_106 : Cond.code yX7_plan prog_1_method_9_code 2 (some .int) ∈ lw_tbl := tb_3 (List.mem_of_getElem? (i := 106) rfl)
set_option maxRecDepth 4000 in
theorem mw_3_107 : Cond.methodLink "StarWalk" 163 yX0_hasPlanned ∈ lw_tbl := tb_3 (List.mem_of_getElem? (i := 107) rfl)
set_option maxRecDepth 4000 in
theorem mw_3_108 : Cond.methodLink "StarWalkLaw" 48 yX7_set ∈ lw_tbl := tb_3 (List.mem_of_getElem? (i := 108) rfl)
set_option maxRecDepth 4000 in
theorem mw_3_109 : Cond.instanceMethod yX7_set ∈ lw_tbl := tb_3 (List.mem_of_getElem? (i := 109) rfl)
set_option maxRecDepth 4000 in
theorem mw_3_110 : Cond.selects "StarWalk" yX7_set yX7_set ∈ lw_tbl := tb_3 (List.mem_of_getElem? (i := 110) rfl)
set_option maxRecDepth 4000 in
theorem mw_3_111 : Cond.code yX7_set prog_1_method_10_code 4 (some .int) ∈ lw_tbl := tb_3 (List.mem_of_getElem? (i := 111) rfl)
set_option maxRecDepth 4000 in
theorem mw_3_112 : Cond.methodLink "StarWalk" 169 yX7_mayBeSet ∈ lw_tbl := tb_3 (List.mem_of_getElem? (i := 112) rfl)
set_option maxRecDepth 4000 in
theorem mw_3_113 : Cond.privateMethod yX7_mayBeSet ∈ lw_tbl := tb_3 (List.mem_of_getElem? (i := 113) rfl)
set_option maxRecDepth 4000 in
theorem mw_3_114 : Cond.instanceMethod yX7_mayBeSet ∈ lw_tbl := tb_3 (List.mem_of_getElem? (i := 114) rfl)
set_option maxRecDepth 4000 in
theorem mw_3_115 : Cond.code yX7_mayBeSet prog_1_method_11_code 3 (some .boolean) ∈ lw_tbl := tb_3 (List.mem_of_getElem? (i := 115) rfl)
set_option maxRecDepth 4000 in
theorem mw_3_116 : Cond.methodLink "StarWalk" 173 yX7_rule ∈ lw_tbl := tb_3 (List.mem_of_getElem? (i := 116) rfl)
set_option maxRecDepth 4000 in
theorem mw_3_117 : Cond.methodLink "StarWalkLaw" 52 yX7_cloud ∈ lw_tbl := tb_3 (List.mem_of_getElem? (i := 117) rfl)
set_option maxRecDepth 4000 in
theorem mw_3_118 : Cond.instanceMethod yX7_cloud ∈ lw_tbl := tb_3 (List.mem_of_getElem? (i := 118) rfl)
set_option maxRecDepth 4000 in
theorem mw_3_119 : Cond.selects "StarWalk" yX7_cloud yX7_cloud ∈ lw_tbl := tb_3 (List.mem_of_getElem? (i := 119) rfl)
set_option maxRecDepth 4000 in
theorem mw_3_120 : Cond.code yX7_cloud prog_1_method_12_code 4 (some .int) ∈ lw_tbl := tb_3 (List.mem_of_getElem? (i := 120) rfl)
set_option maxRecDepth 4000 in
theorem mw_3_121 : Cond.methodLink "StarWalk" 177 yX7_isHour ∈ lw_tbl := tb_3 (List.mem_of_getElem? (i := 121) rfl)
set_option maxRecDepth 4000 in
theorem mw_3_122 : Cond.static yX7_isHour ∈ lw_tbl := tb_3 (List.mem_of_getElem? (i := 122) rfl)
set_option maxRecDepth 4000 in
theorem mw_3_123 : Cond.code yX7_isHour prog_1_method_49_code 1 (some .boolean) ∈ lw_tbl := tb_3 (List.mem_of_getElem? (i := 123) rfl)
set_option maxRecDepth 4000 in
theorem mw_3_124 : Cond.methodLink "StarWalk" 180 yX0_isCloudy ∈ lw_tbl := tb_3 (List.mem_of_getElem? (i := 124) rfl)
set_option maxRecDepth 4000 in
theorem mw_3_125 : Cond.methodLink "StarWalk" 183 yX7_withBit ∈ lw_tbl := tb_3 (List.mem_of_getElem? (i := 125) rfl)
set_option maxRecDepth 4000 in
theorem mw_3_126 : Cond.methodLink "StarWalkLaw" 57 yX7_know ∈ lw_tbl := tb_3 (List.mem_of_getElem? (i := 126) rfl)
set_option maxRecDepth 4000 in
theorem mw_3_127 : Cond.instanceMethod yX7_know ∈ lw_tbl := tb_3 (List.mem_of_getElem? (i := 127) rfl)
set_option maxRecDepth 4000 in
theorem mw_3_128 : Cond.selects "StarWalk" yX7_know yX7_know ∈ lw_tbl := tb_3 (List.mem_of_getElem? (i := 128) rfl)
set_option maxRecDepth 4000 in
theorem mw_3_129 : Cond.code yX7_know prog_1_method_13_code 4 (some .int) ∈ lw_tbl := tb_3 (List.mem_of_getElem? (i := 129) rfl)
set_option maxRecDepth 4000 in
theorem mw_3_130 : Cond.methodLink "StarWalkLaw" 61 yX7_turn ∈ lw_tbl := tb_3 (List.mem_of_getElem? (i := 130) rfl)
set_option maxRecDepth 4000 in
theorem mw_3_131 : Cond.instanceMethod yX7_turn ∈ lw_tbl := tb_3 (List.mem_of_getElem? (i := 131) rfl)
set_option maxRecDepth 4000 in
theorem mw_3_132 : Cond.selects "StarWalk" yX7_turn yX7_turn ∈ lw_tbl := tb_3 (List.mem_of_getElem? (i := 132) rfl)
set_option maxRecDepth 4000 in
theorem mw_3_133 : Cond.code yX7_turn prog_1_method_14_code 4 (some .int) ∈ lw_tbl := tb_3 (List.mem_of_getElem? (i := 133) rfl)
set_option maxRecDepth 4000 in
theorem mw_3_134 : Cond.methodLink "StarWalkLaw" 65 yX7_teach ∈ lw_tbl := tb_3 (List.mem_of_getElem? (i := 134) rfl)
set_option maxRecDepth 4000 in
theorem mw_3_135 : Cond.instanceMethod yX7_teach ∈ lw_tbl := tb_3 (List.mem_of_getElem? (i := 135) rfl)
set_option maxRecDepth 4000 in
theorem mw_3_136 : Cond.selects "StarWalk" yX7_teach yX7_teach ∈ lw_tbl := tb_3 (List.mem_of_getElem? (i := 136) rfl)
set_option maxRecDepth 4000 in
theorem mw_3_137 : Cond.code yX7_teach prog_1_method_15_code 4 (some .int) ∈ lw_tbl := tb_3 (List.mem_of_getElem? (i := 137) rfl)
set_option maxRecDepth 4000 in
theorem mw_3_138 : Cond.methodLink "StarWalkLaw" 69 yX7_plans ∈ lw_tbl := tb_3 (List.mem_of_getElem? (i := 138) rfl)
set_option maxRecDepth 4000 in
theorem mw_3_139 : Cond.instanceMethod yX7_plans ∈ lw_tbl := tb_3 (List.mem_of_getElem? (i := 139) rfl)
set_option maxRecDepth 4000 in
theorem mw_3_140 : Cond.selects "StarWalk" yX7_plans yX7_plans ∈ lw_tbl := tb_3 (List.mem_of_getElem? (i := 140) rfl)
set_option maxRecDepth 4000 in
theorem mw_3_141 : Cond.code yX7_plans prog_1_method_16_code 2 (some .int) ∈ lw_tbl := tb_3 (List.mem_of_getElem? (i := 141) rfl)
set_option maxRecDepth 4000 in
theorem mw_3_142 : Cond.methodLink "StarWalk" 190 yX0_hasAim ∈ lw_tbl := tb_3 (List.mem_of_getElem? (i := 142) rfl)
set_option maxRecDepth 4000 in
theorem mw_3_143 : Cond.methodLink "StarWalk" 193 yX0_addAim ∈ lw_tbl := tb_3 (List.mem_of_getElem? (i := 143) rfl)
set_option maxRecDepth 4000 in
theorem mw_3_144 : Cond.methodLink "StarWalkLaw" 73 yX7_cut ∈ lw_tbl := tb_3 (List.mem_of_getElem? (i := 144) rfl)
set_option maxRecDepth 4000 in
theorem mw_3_145 : Cond.instanceMethod yX7_cut ∈ lw_tbl := tb_3 (List.mem_of_getElem? (i := 145) rfl)
set_option maxRecDepth 4000 in
theorem mw_3_146 : Cond.selects "StarWalk" yX7_cut yX7_cut ∈ lw_tbl := tb_3 (List.mem_of_getElem? (i := 146) rfl)
set_option maxRecDepth 4000 in
theorem mw_3_147 : Cond.code yX7_cut prog_1_method_17_code 3 (some .int) ∈ lw_tbl := tb_3 (List.mem_of_getElem? (i := 147) rfl)
set_option maxRecDepth 4000 in
theorem mw_3_148 : Cond.methodLink "StarWalkLaw" 77 yX7_pull ∈ lw_tbl := tb_3 (List.mem_of_getElem? (i := 148) rfl)
set_option maxRecDepth 4000 in
theorem mw_3_149 : Cond.instanceMethod yX7_pull ∈ lw_tbl := tb_3 (List.mem_of_getElem? (i := 149) rfl)
set_option maxRecDepth 4000 in
theorem mw_3_150 : Cond.selects "StarWalk" yX7_pull yX7_pull ∈ lw_tbl := tb_3 (List.mem_of_getElem? (i := 150) rfl)
set_option maxRecDepth 4000 in
theorem mw_3_151 : Cond.code yX7_pull prog_1_method_18_code 2 (some .int) ∈ lw_tbl := tb_3 (List.mem_of_getElem? (i := 151) rfl)
set_option maxRecDepth 4000 in
theorem mw_3_152 : Cond.methodLink "StarWalk" 196 yX0_pullOfRow ∈ lw_tbl := tb_3 (List.mem_of_getElem? (i := 152) rfl)
set_option maxRecDepth 4000 in
theorem mw_3_153 : Cond.instanceMethod yX0_pullOfRow ∈ lw_tbl := tb_3 (List.mem_of_getElem? (i := 153) rfl)
set_option maxRecDepth 4000 in
theorem mw_3_154 : Cond.selects "StarWalk$Night" yX0_pullOfRow yX0_pullOfRow ∈ lw_tbl := tb_3 (List.mem_of_getElem? (i := 154) rfl)
set_option maxRecDepth 4000 in
theorem mw_3_155 : Cond.code yX0_pullOfRow prog_2_method_18_code 3 (some .int) ∈ lw_tbl := tb_3 (List.mem_of_getElem? (i := 155) rfl)
set_option maxRecDepth 4000 in
theorem mw_3_156 : Cond.methodLink "StarWalk$Night" 117 yX0_hasWalker ∈ lw_tbl := tb_3 (List.mem_of_getElem? (i := 156) rfl)
set_option maxRecDepth 4000 in
theorem mw_3_157 : Cond.methodLink "StarWalk$Night" 120 yX0_pullOfKind ∈ lw_tbl := tb_3 (List.mem_of_getElem? (i := 157) rfl)
set_option maxRecDepth 4000 in
theorem mw_3_158 : Cond.static yX0_pullOfKind ∈ lw_tbl := tb_3 (List.mem_of_getElem? (i := 158) rfl)
set_option maxRecDepth 4000 in
theorem mw_3_159 : Cond.code yX0_pullOfKind prog_2_method_17_code 4 (some .int) ∈ lw_tbl := tb_3 (List.mem_of_getElem? (i := 159) rfl)
set_option maxRecDepth 4000 in
theorem mw_3_160 : Cond.methodLink "StarWalk$Night" 124 yJ9_max_7cf53 ∈ lw_tbl := tb_3 (List.mem_of_getElem? (i := 160) rfl)
set_option maxRecDepth 4000 in
theorem mw_3_161 : Cond.static yJ9_max_7cf53 ∈ lw_tbl := tb_3 (List.mem_of_getElem? (i := 161) rfl)
set_option maxRecDepth 4000 in
theorem mw_3_162 : Cond.code yJ9_max_7cf53 prog_12_method_65_code 2 (some .int) ∈ lw_tbl := tb_3 (List.mem_of_getElem? (i := 162) rfl)
set_option maxRecDepth 4000 in
theorem mw_3_163 : Cond.methodLink "StarWalkLaw" 81 yX7_up ∈ lw_tbl := tb_3 (List.mem_of_getElem? (i := 163) rfl)
set_option maxRecDepth 4000 in
theorem mw_3_164 : Cond.instanceMethod yX7_up ∈ lw_tbl := tb_3 (List.mem_of_getElem? (i := 164) rfl)
set_option maxRecDepth 4000 in
theorem mw_3_165 : Cond.selects "StarWalk" yX7_up yX7_up ∈ lw_tbl := tb_3 (List.mem_of_getElem? (i := 165) rfl)
set_option maxRecDepth 4000 in
theorem mw_3_166 : Cond.code yX7_up prog_1_method_19_code 4 (some .int) ∈ lw_tbl := tb_3 (List.mem_of_getElem? (i := 166) rfl)
set_option maxRecDepth 4000 in
theorem mw_3_167 : Cond.methodLink "StarWalk" 199 yX0_isStarUp ∈ lw_tbl := tb_3 (List.mem_of_getElem? (i := 167) rfl)
set_option maxRecDepth 4000 in
theorem mw_3_168 : Cond.instanceMethod yX0_isStarUp ∈ lw_tbl := tb_3 (List.mem_of_getElem? (i := 168) rfl)
set_option maxRecDepth 4000 in
theorem mw_3_169 : Cond.selects "StarWalk$Night" yX0_isStarUp yX0_isStarUp ∈ lw_tbl := tb_3 (List.mem_of_getElem? (i := 169) rfl)
set_option maxRecDepth 4000 in
theorem mw_3_170 : Cond.code yX0_isStarUp prog_2_method_13_code 3 (some .boolean) ∈ lw_tbl := tb_3 (List.mem_of_getElem? (i := 170) rfl)
set_option maxRecDepth 4000 in
theorem mw_3_171 : Cond.methodLink "StarWalk$Night" 100 yX0_isCloudy ∈ lw_tbl := tb_3 (List.mem_of_getElem? (i := 171) rfl)
set_option maxRecDepth 4000 in
theorem mw_3_172 : Cond.methodLink "StarWalkLaw" 85 yX7_go ∈ lw_tbl := tb_3 (List.mem_of_getElem? (i := 172) rfl)
set_option maxRecDepth 4000 in
theorem mw_3_173 : Cond.instanceMethod yX7_go ∈ lw_tbl := tb_3 (List.mem_of_getElem? (i := 173) rfl)
set_option maxRecDepth 4000 in
theorem mw_3_174 : Cond.selects "StarWalk" yX7_go yX7_go ∈ lw_tbl := tb_3 (List.mem_of_getElem? (i := 174) rfl)
set_option maxRecDepth 4000 in
theorem mw_3_175 : Cond.code yX7_go prog_1_method_20_code 2 (some .int) ∈ lw_tbl := tb_3 (List.mem_of_getElem? (i := 175) rfl)
set_option maxRecDepth 4000 in
theorem mw_3_176 : Cond.methodLink "StarWalk" 202 yX0_step ∈ lw_tbl := tb_3 (List.mem_of_getElem? (i := 176) rfl)
set_option maxRecDepth 4000 in
theorem mw_3_177 : Cond.instanceMethod yX0_step ∈ lw_tbl := tb_3 (List.mem_of_getElem? (i := 177) rfl)
set_option maxRecDepth 4000 in
theorem mw_3_178 : Cond.selects "StarWalk$Night" yX0_step yX0_step ∈ lw_tbl := tb_3 (List.mem_of_getElem? (i := 178) rfl)
set_option maxRecDepth 4000 in
theorem mw_3_179 : Cond.code yX0_step prog_2_method_19_code 4 (some .boolean) ∈ lw_tbl := tb_3 (List.mem_of_getElem? (i := 179) rfl)
set_option maxRecDepth 4000 in
theorem mw_3_180 : Cond.methodLink "StarWalk$Night" 127 yX0_hasAim ∈ lw_tbl := tb_3 (List.mem_of_getElem? (i := 180) rfl)
set_option maxRecDepth 4000 in
theorem mw_3_181 : Cond.methodLink "StarWalk$Night" 130 yX2_canStep ∈ lw_tbl := tb_3 (List.mem_of_getElem? (i := 181) rfl)
set_option maxRecDepth 4000 in
theorem mw_3_182 : Cond.instanceMethod yX2_canStep ∈ lw_tbl := tb_3 (List.mem_of_getElem? (i := 182) rfl)
set_option maxRecDepth 4000 in
theorem mw_3_183 : Cond.selects "StarWalk$Place" yX2_canStep yX2_canStep ∈ lw_tbl := tb_3 (List.mem_of_getElem? (i := 183) rfl)
set_option maxRecDepth 4000 in
theorem mw_3_184 : Cond.code yX2_canStep prog_4_method_3_code 1 (some .boolean) ∈ lw_tbl := tb_3 (List.mem_of_getElem? (i := 184) rfl)
set_option maxRecDepth 4000 in
theorem mw_3_185 : Cond.methodLink "StarWalk$Night" 134 yX0_pullOfRow ∈ lw_tbl := tb_3 (List.mem_of_getElem? (i := 185) rfl)
set_option maxRecDepth 4000 in
theorem mw_3_186 : Cond.methodLink "StarWalk$Night" 137 yX2_pass ∈ lw_tbl := tb_3 (List.mem_of_getElem? (i := 186) rfl)
set_option maxRecDepth 4000 in
theorem mw_3_187 : Cond.instanceMethod yX2_pass ∈ lw_tbl := tb_3 (List.mem_of_getElem? (i := 187) rfl)
set_option maxRecDepth 4000 in
theorem mw_3_188 : Cond.selects "StarWalk$Place" yX2_pass yX2_pass ∈ lw_tbl := tb_3 (List.mem_of_getElem? (i := 188) rfl)
set_option maxRecDepth 4000 in
theorem mw_3_189 : Cond.code yX2_pass prog_4_method_4_code 4 none ∈ lw_tbl := tb_3 (List.mem_of_getElem? (i := 189) rfl)
set_option maxRecDepth 4000 in
theorem mw_3_190 : Cond.methodLink "StarWalk$Place" 24 yJ9_max_7cf53 ∈ lw_tbl := tb_3 (List.mem_of_getElem? (i := 190) rfl)
set_option maxRecDepth 4000 in
theorem mw_3_191 : Cond.methodLink "StarWalk$Night" 141 yX0_isBlind ∈ lw_tbl := tb_3 (List.mem_of_getElem? (i := 191) rfl)
set_option maxRecDepth 4000 in
theorem mw_3_192 : Cond.instanceMethod yX0_isBlind ∈ lw_tbl := tb_3 (List.mem_of_getElem? (i := 192) rfl)
set_option maxRecDepth 4000 in
theorem mw_3_193 : Cond.selects "StarWalk$Night" yX0_isBlind yX0_isBlind ∈ lw_tbl := tb_3 (List.mem_of_getElem? (i := 193) rfl)
set_option maxRecDepth 4000 in
theorem mw_3_194 : Cond.code yX0_isBlind prog_2_method_14_code 3 (some .boolean) ∈ lw_tbl := tb_3 (List.mem_of_getElem? (i := 194) rfl)
set_option maxRecDepth 4000 in
theorem mw_3_195 : Cond.methodLink "StarWalk$Night" 103 yX0_isStarUp ∈ lw_tbl := tb_3 (List.mem_of_getElem? (i := 195) rfl)
set_option maxRecDepth 4000 in
theorem mw_3_196 : Cond.methodLink "StarWalk$Night" 144 yX0_isKnown ∈ lw_tbl := tb_3 (List.mem_of_getElem? (i := 196) rfl)
set_option maxRecDepth 4000 in
theorem mw_3_197 : Cond.methodLink "StarWalkLaw" 89 yX7_runs ∈ lw_tbl := tb_3 (List.mem_of_getElem? (i := 197) rfl)
set_option maxRecDepth 4000 in
theorem mw_3_198 : Cond.instanceMethod yX7_runs ∈ lw_tbl := tb_3 (List.mem_of_getElem? (i := 198) rfl)
set_option maxRecDepth 4000 in
theorem mw_3_199 : Cond.selects "StarWalk" yX7_runs yX7_runs ∈ lw_tbl := tb_3 (List.mem_of_getElem? (i := 199) rfl)
set_option maxRecDepth 4000 in
theorem mw_3_200 : Cond.code yX7_runs prog_1_method_21_code 3 (some .int) ∈ lw_tbl := tb_3 (List.mem_of_getElem? (i := 200) rfl)
set_option maxRecDepth 4000 in
theorem mw_3_201 : Cond.methodLink "StarWalk" 206 yX6_begin ∈ lw_tbl := tb_3 (List.mem_of_getElem? (i := 201) rfl)
set_option maxRecDepth 4000 in
theorem mw_3_202 : Cond.instanceMethod yX6_begin ∈ lw_tbl := tb_3 (List.mem_of_getElem? (i := 202) rfl)
set_option maxRecDepth 4000 in
theorem mw_3_203 : Cond.selects "StarWalk$Trial" yX6_begin yX6_begin ∈ lw_tbl := tb_3 (List.mem_of_getElem? (i := 203) rfl)
set_option maxRecDepth 4000 in
theorem mw_3_204 : Cond.code yX6_begin prog_8_method_2_code 2 none ∈ lw_tbl := tb_3 (List.mem_of_getElem? (i := 204) rfl)
set_option maxRecDepth 4000 in
theorem mw_3_205 : Cond.methodLink "StarWalk$Trial" 22 yX0_become ∈ lw_tbl := tb_3 (List.mem_of_getElem? (i := 205) rfl)
set_option maxRecDepth 4000 in
theorem mw_3_206 : Cond.methodLink "StarWalk" 209 yX6_walkPlan ∈ lw_tbl := tb_3 (List.mem_of_getElem? (i := 206) rfl)
set_option maxRecDepth 4000 in
theorem mw_3_207 : Cond.instanceMethod yX6_walkPlan ∈ lw_tbl := tb_3 (List.mem_of_getElem? (i := 207) rfl)
set_option maxRecDepth 4000 in
theorem mw_3_208 : Cond.selects "StarWalk$Trial" yX6_walkPlan yX6_walkPlan ∈ lw_tbl := tb_3 (List.mem_of_getElem? (i := 208) rfl)
set_option maxRecDepth 4000 in
theorem mw_3_209 : Cond.code yX6_walkPlan prog_8_method_3_code 5 none ∈ lw_tbl := tb_3 (List.mem_of_getElem? (i := 209) rfl)
set_option maxRecDepth 4000 in
theorem mw_3_210 : Cond.methodLink "StarWalk$Trial" 42 yX0_hasPlanned ∈ lw_tbl := tb_3 (List.mem_of_getElem? (i := 210) rfl)
set_option maxRecDepth 4000 in
theorem mw_3_211 : Cond.methodLink "StarWalk$Trial" 52 yX0_isBlind ∈ lw_tbl := tb_3 (List.mem_of_getElem? (i := 211) rfl)
set_option maxRecDepth 4000 in
theorem mw_3_212 : Cond.methodLink "StarWalk$Trial" 56 yX0_step ∈ lw_tbl := tb_3 (List.mem_of_getElem? (i := 212) rfl)
set_option maxRecDepth 4000 in
theorem mw_3_213 : Cond.methodLink "StarWalkLaw" 93 yX7_next ∈ lw_tbl := tb_3 (List.mem_of_getElem? (i := 213) rfl)
set_option maxRecDepth 4000 in
theorem mw_3_214 : Cond.instanceMethod yX7_next ∈ lw_tbl := tb_3 (List.mem_of_getElem? (i := 214) rfl)
set_option maxRecDepth 4000 in
theorem mw_3_215 : Cond.selects "StarWalk" yX7_next yX7_next ∈ lw_tbl := tb_3 (List.mem_of_getElem? (i := 215) rfl)
set_option maxRecDepth 4000 in
theorem mw_3_216 : Cond.code yX7_next prog_1_method_22_code 6 (some .int) ∈ lw_tbl := tb_3 (List.mem_of_getElem? (i := 216) rfl)
set_option maxRecDepth 4000 in
theorem mw_3_217 : Cond.methodLink "StarWalk" 221 yX2_canStep ∈ lw_tbl := tb_3 (List.mem_of_getElem? (i := 217) rfl)
set_option maxRecDepth 4000 in
theorem mw_3_218 : Cond.methodLink "StarWalk" 225 yX2_become ∈ lw_tbl := tb_3 (List.mem_of_getElem? (i := 218) rfl)
set_option maxRecDepth 4000 in
theorem mw_3_219 : Cond.methodLink "StarWalk" 228 yX2_isBetterThan ∈ lw_tbl := tb_3 (List.mem_of_getElem? (i := 219) rfl)
set_option maxRecDepth 4000 in
theorem mw_3_220 : Cond.instanceMethod yX2_isBetterThan ∈ lw_tbl := tb_3 (List.mem_of_getElem? (i := 220) rfl)
set_option maxRecDepth 4000 in
theorem mw_3_221 : Cond.selects "StarWalk$Place" yX2_isBetterThan yX2_isBetterThan ∈ lw_tbl := tb_3 (List.mem_of_getElem? (i := 221) rfl)
set_option maxRecDepth 4000 in
theorem mw_3_222 : Cond.code yX2_isBetterThan prog_4_method_5_code 5 (some .boolean) ∈ lw_tbl := tb_3 (List.mem_of_getElem? (i := 222) rfl)
set_option maxRecDepth 4000 in
theorem mw_3_223 : Cond.methodLink "StarWalk$Place" 30 yJ9_abs_0f7a4 ∈ lw_tbl := tb_3 (List.mem_of_getElem? (i := 223) rfl)
set_option maxRecDepth 4000 in
theorem mw_3_224 : Cond.methodLink "StarWalkLaw" 97 yX7_best ∈ lw_tbl := tb_3 (List.mem_of_getElem? (i := 224) rfl)
set_option maxRecDepth 4000 in
theorem mw_3_225 : Cond.instanceMethod yX7_best ∈ lw_tbl := tb_3 (List.mem_of_getElem? (i := 225) rfl)
set_option maxRecDepth 4000 in
theorem mw_3_226 : Cond.selects "StarWalk" yX7_best yX7_best ∈ lw_tbl := tb_3 (List.mem_of_getElem? (i := 226) rfl)
set_option maxRecDepth 4000 in
theorem mw_3_227 : Cond.code yX7_best prog_1_method_23_code 4 (some .int) ∈ lw_tbl := tb_3 (List.mem_of_getElem? (i := 227) rfl)
set_option maxRecDepth 4000 in
theorem mw_3_228 : Cond.methodLink "StarWalk" 231 yX3_findBest ∈ lw_tbl := tb_3 (List.mem_of_getElem? (i := 228) rfl)
set_option maxRecDepth 4000 in
theorem mw_3_229 : Cond.instanceMethod yX3_findBest ∈ lw_tbl := tb_3 (List.mem_of_getElem? (i := 229) rfl)
set_option maxRecDepth 4000 in
theorem mw_3_230 : Cond.selects "StarWalk$Search" yX3_findBest yX3_findBest ∈ lw_tbl := tb_3 (List.mem_of_getElem? (i := 230) rfl)
set_option maxRecDepth 4000 in
theorem mw_3_231 : Cond.code yX3_findBest prog_5_method_2_code 3 none ∈ lw_tbl := tb_3 (List.mem_of_getElem? (i := 231) rfl)
set_option maxRecDepth 4000 in
theorem mw_3_232 : Cond.methodLink "StarWalk$Search" 35 yX2_become ∈ lw_tbl := tb_3 (List.mem_of_getElem? (i := 232) rfl)
set_option maxRecDepth 4000 in
theorem mw_3_233 : Cond.methodLink "StarWalk$Search" 39 yX3_extend ∈ lw_tbl := tb_3 (List.mem_of_getElem? (i := 233) rfl)
set_option maxRecDepth 4000 in
theorem mw_3_234 : Cond.privateMethod yX3_extend ∈ lw_tbl := tb_3 (List.mem_of_getElem? (i := 234) rfl)
set_option maxRecDepth 4000 in
theorem mw_3_235 : Cond.instanceMethod yX3_extend ∈ lw_tbl := tb_3 (List.mem_of_getElem? (i := 235) rfl)
set_option maxRecDepth 4000 in
theorem mw_3_236 : Cond.code yX3_extend prog_5_method_3_code 6 none ∈ lw_tbl := tb_3 (List.mem_of_getElem? (i := 236) rfl)
set_option maxRecDepth 4000 in
theorem mw_3_237 : Cond.methodLink "StarWalk$Search" 43 yX3_judge ∈ lw_tbl := tb_3 (List.mem_of_getElem? (i := 237) rfl)
set_option maxRecDepth 4000 in
theorem mw_3_238 : Cond.privateMethod yX3_judge ∈ lw_tbl := tb_3 (List.mem_of_getElem? (i := 238) rfl)
set_option maxRecDepth 4000 in
theorem mw_3_239 : Cond.instanceMethod yX3_judge ∈ lw_tbl := tb_3 (List.mem_of_getElem? (i := 239) rfl)
set_option maxRecDepth 4000 in
theorem mw_4_0 : Cond.code yX3_judge prog_5_method_4_code 2 none ∈ lw_tbl := tb_4 (List.mem_of_getElem? (i := 0) rfl)
set_option maxRecDepth 4000 in
theorem mw_4_1 : Cond.methodLink "StarWalk$Search" 61 yX2_isBetterThan ∈ lw_tbl := tb_4 (List.mem_of_getElem? (i := 1) rfl)
set_option maxRecDepth 4000 in
theorem mw_4_2 : Cond.methodLink "StarWalk$Search" 71 ⟨"java/lang/System", "arraycopy", "(Ljava/lang/Object;ILjava/lang/Object;II)V"⟩ ∈ lw_tbl := tb_4 (List.mem_of_getElem? (i := 2) rfl)
set_option maxRecDepth 4000 in
theorem mw_4_3 : Cond.methodLink "StarWalk$Search" 46 yX0_hasAim ∈ lw_tbl := tb_4 (List.mem_of_getElem? (i := 3) rfl)
set_option maxRecDepth 4000 in
theorem mw_4_4 : Cond.methodLink "StarWalk$Search" 50 yX0_step ∈ lw_tbl := tb_4 (List.mem_of_getElem? (i := 4) rfl)
set_option maxRecDepth 4000 in
theorem mw_4_5 : Cond.methodLink "StarWalkLaw" 101 yX7_front ∈ lw_tbl := tb_4 (List.mem_of_getElem? (i := 5) rfl)
set_option maxRecDepth 4000 in
theorem mw_4_6 : Cond.instanceMethod yX7_front ∈ lw_tbl := tb_4 (List.mem_of_getElem? (i := 6) rfl)
set_option maxRecDepth 4000 in
theorem mw_4_7 : Cond.selects "StarWalk" yX7_front yX7_front ∈ lw_tbl := tb_4 (List.mem_of_getElem? (i := 7) rfl)
set_option maxRecDepth 4000 in
theorem mw_4_8 : Cond.code yX7_front prog_1_method_24_code 6 (some .int) ∈ lw_tbl := tb_4 (List.mem_of_getElem? (i := 8) rfl)
set_option maxRecDepth 4000 in
theorem mw_4_9 : Cond.methodLink "StarWalk" 244 yX7_isZeroOrOne ∈ lw_tbl := tb_4 (List.mem_of_getElem? (i := 9) rfl)
set_option maxRecDepth 4000 in
theorem mw_4_10 : Cond.static yX7_isZeroOrOne ∈ lw_tbl := tb_4 (List.mem_of_getElem? (i := 10) rfl)
set_option maxRecDepth 4000 in
theorem mw_4_11 : Cond.code yX7_isZeroOrOne prog_1_method_48_code 1 (some .boolean) ∈ lw_tbl := tb_4 (List.mem_of_getElem? (i := 11) rfl)
set_option maxRecDepth 4000 in
theorem mw_4_12 : Cond.methodLink "StarWalk" 247 yJ9_abs_0f7a4 ∈ lw_tbl := tb_4 (List.mem_of_getElem? (i := 12) rfl)
set_option maxRecDepth 4000 in
theorem mw_4_13 : Cond.methodLink "StarWalkLaw" 105 yX7_lessons ∈ lw_tbl := tb_4 (List.mem_of_getElem? (i := 13) rfl)
set_option maxRecDepth 4000 in
theorem mw_4_14 : Cond.instanceMethod yX7_lessons ∈ lw_tbl := tb_4 (List.mem_of_getElem? (i := 14) rfl)
set_option maxRecDepth 4000 in
theorem mw_4_15 : Cond.selects "StarWalk" yX7_lessons yX7_lessons ∈ lw_tbl := tb_4 (List.mem_of_getElem? (i := 15) rfl)
set_option maxRecDepth 4000 in
theorem mw_4_16 : Cond.code yX7_lessons prog_1_method_25_code 7 (some .int) ∈ lw_tbl := tb_4 (List.mem_of_getElem? (i := 16) rfl)
set_option maxRecDepth 4000 in
theorem mw_4_17 : Cond.methodLink "StarWalk" 252 yJ6_bitCount_0f7a4 ∈ lw_tbl := tb_4 (List.mem_of_getElem? (i := 17) rfl)
set_option maxRecDepth 4000 in
theorem mw_4_18 : Cond.static yJ6_bitCount_0f7a4 ∈ lw_tbl := tb_4 (List.mem_of_getElem? (i := 18) rfl)
set_option maxRecDepth 4000 in
theorem mw_4_19 : Cond.code yJ6_bitCount_0f7a4 prog_11_method_49_code 1 (some .int) ∈ lw_tbl := tb_4 (List.mem_of_getElem? (i := 19) rfl)
set_option maxRecDepth 4000 in
theorem mw_4_20 : Cond.constant "java/lang/Integer" 265 (1431655765 : Int32) ∈ lw_tbl := tb_4 (List.mem_of_getElem? (i := 20) rfl)
set_option maxRecDepth 4000 in
theorem mw_4_21 : Cond.constant "java/lang/Integer" 266 (858993459 : Int32) ∈ lw_tbl := tb_4 (List.mem_of_getElem? (i := 21) rfl)
set_option maxRecDepth 4000 in
theorem mw_4_22 : Cond.constant "java/lang/Integer" 267 (252645135 : Int32) ∈ lw_tbl := tb_4 (List.mem_of_getElem? (i := 22) rfl)
set_option maxRecDepth 4000 in
theorem mw_4_23 : Cond.methodLink "StarWalk" 257 yX7_isOnTheWayKnowing ∈ lw_tbl := tb_4 (List.mem_of_getElem? (i := 23) rfl)
set_option maxRecDepth 4000 in
theorem mw_4_24 : Cond.privateMethod yX7_isOnTheWayKnowing ∈ lw_tbl := tb_4 (List.mem_of_getElem? (i := 24) rfl)
set_option maxRecDepth 4000 in
theorem mw_4_25 : Cond.instanceMethod yX7_isOnTheWayKnowing ∈ lw_tbl := tb_4 (List.mem_of_getElem? (i := 25) rfl)
set_option maxRecDepth 4000 in
theorem mw_4_26 : Cond.code yX7_isOnTheWayKnowing prog_1_method_26_code 2 (some .boolean) ∈ lw_tbl := tb_4 (List.mem_of_getElem? (i := 26) rfl)
set_option maxRecDepth 4000 in
theorem mw_4_27 : Cond.methodLink "StarWalk" 260 yX0_isWithinBroad ∈ lw_tbl := tb_4 (List.mem_of_getElem? (i := 27) rfl)
set_option maxRecDepth 4000 in
theorem mw_4_28 : Cond.methodLink "StarWalkLaw" 109 yX7_thirst ∈ lw_tbl := tb_4 (List.mem_of_getElem? (i := 28) rfl)
set_option maxRecDepth 4000 in
theorem mw_4_29 : Cond.instanceMethod yX7_thirst ∈ lw_tbl := tb_4 (List.mem_of_getElem? (i := 29) rfl)
set_option maxRecDepth 4000 in
theorem mw_4_30 : Cond.selects "StarWalk" yX7_thirst yX7_thirst ∈ lw_tbl := tb_4 (List.mem_of_getElem? (i := 30) rfl)
set_option maxRecDepth 4000 in
theorem mw_4_31 : Cond.code yX7_thirst prog_1_method_27_code 2 (some .int) ∈ lw_tbl := tb_4 (List.mem_of_getElem? (i := 31) rfl)
set_option maxRecDepth 4000 in
theorem mw_4_32 : Cond.methodLink "StarWalkLaw" 113 yX7_weather ∈ lw_tbl := tb_4 (List.mem_of_getElem? (i := 32) rfl)
set_option maxRecDepth 4000 in
theorem mw_4_33 : Cond.instanceMethod yX7_weather ∈ lw_tbl := tb_4 (List.mem_of_getElem? (i := 33) rfl)
set_option maxRecDepth 4000 in
theorem mw_4_34 : Cond.selects "StarWalk" yX7_weather yX7_weather ∈ lw_tbl := tb_4 (List.mem_of_getElem? (i := 34) rfl)
set_option maxRecDepth 4000 in
theorem mw_4_35 : Cond.code yX7_weather prog_1_method_28_code 3 (some .int) ∈ lw_tbl := tb_4 (List.mem_of_getElem? (i := 35) rfl)
set_option maxRecDepth 4000 in
theorem mw_4_36 : Cond.methodLink "StarWalk" 263 yX7_isAtWellUnder ∈ lw_tbl := tb_4 (List.mem_of_getElem? (i := 36) rfl)
set_option maxRecDepth 4000 in
theorem mw_4_37 : Cond.privateMethod yX7_isAtWellUnder ∈ lw_tbl := tb_4 (List.mem_of_getElem? (i := 37) rfl)
set_option maxRecDepth 4000 in
theorem mw_4_38 : Cond.instanceMethod yX7_isAtWellUnder ∈ lw_tbl := tb_4 (List.mem_of_getElem? (i := 38) rfl)
set_option maxRecDepth 4000 in
theorem mw_4_39 : Cond.code yX7_isAtWellUnder prog_1_method_29_code 2 (some .boolean) ∈ lw_tbl := tb_4 (List.mem_of_getElem? (i := 39) rfl)
set_option maxRecDepth 4000 in
theorem mw_4_40 : Cond.methodLink "StarWalkLaw" 117 yX7_luck ∈ lw_tbl := tb_4 (List.mem_of_getElem? (i := 40) rfl)
set_option maxRecDepth 4000 in
theorem mw_4_41 : Cond.instanceMethod yX7_luck ∈ lw_tbl := tb_4 (List.mem_of_getElem? (i := 41) rfl)
set_option maxRecDepth 4000 in
theorem mw_4_42 : Cond.selects "StarWalk" yX7_luck yX7_luck ∈ lw_tbl := tb_4 (List.mem_of_getElem? (i := 42) rfl)
set_option maxRecDepth 4000 in
theorem mw_4_43 : Cond.code yX7_luck prog_1_method_30_code 3 (some .long) ∈ lw_tbl := tb_4 (List.mem_of_getElem? (i := 43) rfl)
set_option maxRecDepth 4000 in
theorem mw_4_44 : Cond.constantLong "StarWalk" 266 (-1 : Int64) ∈ lw_tbl := tb_4 (List.mem_of_getElem? (i := 44) rfl)
set_option maxRecDepth 4000 in
theorem mw_4_45 : Cond.methodLink "StarWalk" 268 yX1_weighAll ∈ lw_tbl := tb_4 (List.mem_of_getElem? (i := 45) rfl)
set_option maxRecDepth 4000 in
theorem mw_4_46 : Cond.instanceMethod yX1_weighAll ∈ lw_tbl := tb_4 (List.mem_of_getElem? (i := 46) rfl)
set_option maxRecDepth 4000 in
theorem mw_4_47 : Cond.selects "StarWalk$Odds" yX1_weighAll yX1_weighAll ∈ lw_tbl := tb_4 (List.mem_of_getElem? (i := 47) rfl)
set_option maxRecDepth 4000 in
theorem mw_4_48 : Cond.code yX1_weighAll prog_3_method_2_code 4 (some .long) ∈ lw_tbl := tb_4 (List.mem_of_getElem? (i := 48) rfl)
set_option maxRecDepth 4000 in
theorem mw_4_49 : Cond.methodLink "StarWalk$Odds" 33 yX0_become ∈ lw_tbl := tb_4 (List.mem_of_getElem? (i := 49) rfl)
set_option maxRecDepth 4000 in
theorem mw_4_50 : Cond.methodLink "StarWalk$Odds" 41 yX2_become ∈ lw_tbl := tb_4 (List.mem_of_getElem? (i := 50) rfl)
set_option maxRecDepth 4000 in
theorem mw_4_51 : Cond.methodLink "StarWalk$Odds" 44 yX1_weigh ∈ lw_tbl := tb_4 (List.mem_of_getElem? (i := 51) rfl)
set_option maxRecDepth 4000 in
theorem mw_4_52 : Cond.privateMethod yX1_weigh ∈ lw_tbl := tb_4 (List.mem_of_getElem? (i := 52) rfl)
set_option maxRecDepth 4000 in
theorem mw_4_53 : Cond.instanceMethod yX1_weigh ∈ lw_tbl := tb_4 (List.mem_of_getElem? (i := 53) rfl)
set_option maxRecDepth 4000 in
theorem mw_4_54 : Cond.code yX1_weigh prog_3_method_3_code 8 (some .long) ∈ lw_tbl := tb_4 (List.mem_of_getElem? (i := 54) rfl)
set_option maxRecDepth 4000 in
theorem mw_4_55 : Cond.methodLink "StarWalk$Odds" 48 yX0_hasPlanned ∈ lw_tbl := tb_4 (List.mem_of_getElem? (i := 55) rfl)
set_option maxRecDepth 4000 in
theorem mw_4_56 : Cond.methodLink "StarWalk$Odds" 55 yX0_isAtWell ∈ lw_tbl := tb_4 (List.mem_of_getElem? (i := 56) rfl)
set_option maxRecDepth 4000 in
theorem mw_4_57 : Cond.methodLinkNest "StarWalk$Odds" 59 yX7_oneIf "StarWalk" ∈ lw_tbl := tb_4 (List.mem_of_getElem? (i := 57) rfl)
set_option maxRecDepth 4000 in
theorem mw_4_58 : Cond.methodLink "StarWalk$Odds" 63 yX2_canStep ∈ lw_tbl := tb_4 (List.mem_of_getElem? (i := 58) rfl)
set_option maxRecDepth 4000 in
theorem mw_4_59 : Cond.constantLong "StarWalk$Odds" 67 (10 : Int64) ∈ lw_tbl := tb_4 (List.mem_of_getElem? (i := 59) rfl)
set_option maxRecDepth 4000 in
theorem mw_4_60 : Cond.methodLinkNest "StarWalk$Odds" 75 yX7_withBit "StarWalk" ∈ lw_tbl := tb_4 (List.mem_of_getElem? (i := 60) rfl)
set_option maxRecDepth 4000 in
theorem mw_4_61 : Cond.methodLink "StarWalk$Odds" 83 yX0_step ∈ lw_tbl := tb_4 (List.mem_of_getElem? (i := 61) rfl)
set_option maxRecDepth 4000 in
theorem mw_4_62 : Cond.methodLink "StarWalk" 272 yX1_part ∈ lw_tbl := tb_4 (List.mem_of_getElem? (i := 62) rfl)
set_option maxRecDepth 4000 in
theorem mw_4_63 : Cond.instanceMethod yX1_part ∈ lw_tbl := tb_4 (List.mem_of_getElem? (i := 63) rfl)
set_option maxRecDepth 4000 in
theorem mw_4_64 : Cond.selects "StarWalk$Odds" yX1_part yX1_part ∈ lw_tbl := tb_4 (List.mem_of_getElem? (i := 64) rfl)
set_option maxRecDepth 4000 in
theorem mw_4_65 : Cond.code yX1_part prog_3_method_4_code 9 (some .long) ∈ lw_tbl := tb_4 (List.mem_of_getElem? (i := 65) rfl)
set_option maxRecDepth 4000 in
theorem mw_4_66 : Cond.methodLink "StarWalk$Odds" 87 yX1_divisorOf ∈ lw_tbl := tb_4 (List.mem_of_getElem? (i := 66) rfl)
set_option maxRecDepth 4000 in
theorem mw_4_67 : Cond.static yX1_divisorOf ∈ lw_tbl := tb_4 (List.mem_of_getElem? (i := 67) rfl)
set_option maxRecDepth 4000 in
theorem mw_4_68 : Cond.code yX1_divisorOf prog_3_method_5_code 11 (some .long) ∈ lw_tbl := tb_4 (List.mem_of_getElem? (i := 68) rfl)
set_option maxRecDepth 4000 in
theorem mw_4_69 : Cond.methodLink "StarWalkLaw" 122 yX7_mean ∈ lw_tbl := tb_4 (List.mem_of_getElem? (i := 69) rfl)
set_option maxRecDepth 4000 in
theorem mw_4_70 : Cond.instanceMethod yX7_mean ∈ lw_tbl := tb_4 (List.mem_of_getElem? (i := 70) rfl)
set_option maxRecDepth 4000 in
theorem mw_4_71 : Cond.selects "StarWalk" yX7_mean yX7_mean ∈ lw_tbl := tb_4 (List.mem_of_getElem? (i := 71) rfl)
set_option maxRecDepth 4000 in
theorem mw_4_72 : Cond.code yX7_mean prog_1_method_31_code 3 (some .long) ∈ lw_tbl := tb_4 (List.mem_of_getElem? (i := 72) rfl)
set_option maxRecDepth 4000 in
theorem mw_4_73 : Cond.methodLink "StarWalkLaw" 126 yX7_see ∈ lw_tbl := tb_4 (List.mem_of_getElem? (i := 73) rfl)
set_option maxRecDepth 4000 in
theorem mw_4_74 : Cond.instanceMethod yX7_see ∈ lw_tbl := tb_4 (List.mem_of_getElem? (i := 74) rfl)
set_option maxRecDepth 4000 in
theorem mw_4_75 : Cond.selects "StarWalk" yX7_see yX7_see ∈ lw_tbl := tb_4 (List.mem_of_getElem? (i := 75) rfl)
set_option maxRecDepth 4000 in
theorem mw_4_76 : Cond.code yX7_see prog_1_method_32_code 3 (some .int) ∈ lw_tbl := tb_4 (List.mem_of_getElem? (i := 76) rfl)
set_option maxRecDepth 4000 in
theorem mw_4_77 : Cond.methodLink "StarWalkLaw" 130 yX7_forget ∈ lw_tbl := tb_4 (List.mem_of_getElem? (i := 77) rfl)
set_option maxRecDepth 4000 in
theorem mw_4_78 : Cond.instanceMethod yX7_forget ∈ lw_tbl := tb_4 (List.mem_of_getElem? (i := 78) rfl)
set_option maxRecDepth 4000 in
theorem mw_4_79 : Cond.selects "StarWalk" yX7_forget yX7_forget ∈ lw_tbl := tb_4 (List.mem_of_getElem? (i := 79) rfl)
set_option maxRecDepth 4000 in
theorem mw_4_80 : Cond.code yX7_forget prog_1_method_33_code 3 (some .int) ∈ lw_tbl := tb_4 (List.mem_of_getElem? (i := 80) rfl)
set_option maxRecDepth 4000 in
theorem mw_4_81 : Cond.methodLink "StarWalkLaw" 134 yX7_aims ∈ lw_tbl := tb_4 (List.mem_of_getElem? (i := 81) rfl)
set_option maxRecDepth 4000 in
theorem mw_4_82 : Cond.instanceMethod yX7_aims ∈ lw_tbl := tb_4 (List.mem_of_getElem? (i := 82) rfl)
set_option maxRecDepth 4000 in
theorem mw_4_83 : Cond.selects "StarWalk" yX7_aims yX7_aims ∈ lw_tbl := tb_4 (List.mem_of_getElem? (i := 83) rfl)
set_option maxRecDepth 4000 in
theorem mw_4_84 : Cond.code yX7_aims prog_1_method_34_code 4 (some .int) ∈ lw_tbl := tb_4 (List.mem_of_getElem? (i := 84) rfl)
set_option maxRecDepth 4000 in
theorem mw_4_85 : Cond.methodLink "StarWalk" 285 yX6_isAllAsSeen ∈ lw_tbl := tb_4 (List.mem_of_getElem? (i := 85) rfl)
set_option maxRecDepth 4000 in
theorem mw_4_86 : Cond.instanceMethod yX6_isAllAsSeen ∈ lw_tbl := tb_4 (List.mem_of_getElem? (i := 86) rfl)
set_option maxRecDepth 4000 in
theorem mw_4_87 : Cond.selects "StarWalk$Trial" yX6_isAllAsSeen yX6_isAllAsSeen ∈ lw_tbl := tb_4 (List.mem_of_getElem? (i := 87) rfl)
set_option maxRecDepth 4000 in
theorem mw_4_88 : Cond.code yX6_isAllAsSeen prog_8_method_4_code 3 (some .boolean) ∈ lw_tbl := tb_4 (List.mem_of_getElem? (i := 88) rfl)
set_option maxRecDepth 4000 in
theorem mw_4_89 : Cond.methodLink "StarWalk$Trial" 60 yX6_walkPlan ∈ lw_tbl := tb_4 (List.mem_of_getElem? (i := 89) rfl)
set_option maxRecDepth 4000 in
theorem mw_4_90 : Cond.methodLink "StarWalk$Trial" 72 yJ9_min_7cf53 ∈ lw_tbl := tb_4 (List.mem_of_getElem? (i := 90) rfl)
set_option maxRecDepth 4000 in
theorem mw_4_91 : Cond.static yJ9_min_7cf53 ∈ lw_tbl := tb_4 (List.mem_of_getElem? (i := 91) rfl)
set_option maxRecDepth 4000 in
theorem mw_4_92 : Cond.code yJ9_min_7cf53 prog_12_method_69_code 2 (some .int) ∈ lw_tbl := tb_4 (List.mem_of_getElem? (i := 92) rfl)
set_option maxRecDepth 4000 in
theorem mw_4_93 : Cond.methodLink "StarWalkLaw" 138 yX7_whose ∈ lw_tbl := tb_4 (List.mem_of_getElem? (i := 93) rfl)
set_option maxRecDepth 4000 in
theorem mw_4_94 : Cond.instanceMethod yX7_whose ∈ lw_tbl := tb_4 (List.mem_of_getElem? (i := 94) rfl)
set_option maxRecDepth 4000 in
theorem mw_4_95 : Cond.selects "StarWalk" yX7_whose yX7_whose ∈ lw_tbl := tb_4 (List.mem_of_getElem? (i := 95) rfl)
set_option maxRecDepth 4000 in
theorem mw_4_96 : Cond.code yX7_whose prog_1_method_35_code 3 (some .int) ∈ lw_tbl := tb_4 (List.mem_of_getElem? (i := 96) rfl)
set_option maxRecDepth 4000 in
theorem mw_4_97 : Cond.methodLink "StarWalkLaw" 142 yX7_fits ∈ lw_tbl := tb_4 (List.mem_of_getElem? (i := 97) rfl)
set_option maxRecDepth 4000 in
theorem mw_4_98 : Cond.instanceMethod yX7_fits ∈ lw_tbl := tb_4 (List.mem_of_getElem? (i := 98) rfl)
set_option maxRecDepth 4000 in
theorem mw_4_99 : Cond.selects "StarWalk" yX7_fits yX7_fits ∈ lw_tbl := tb_4 (List.mem_of_getElem? (i := 99) rfl)
set_option maxRecDepth 4000 in
theorem mw_4_100 : Cond.code yX7_fits prog_1_method_36_code 5 (some .int) ∈ lw_tbl := tb_4 (List.mem_of_getElem? (i := 100) rfl)
set_option maxRecDepth 4000 in
theorem mw_4_101 : Cond.methodLink "StarWalkLaw" 146 yX7_drift ∈ lw_tbl := tb_4 (List.mem_of_getElem? (i := 101) rfl)
set_option maxRecDepth 4000 in
theorem mw_4_102 : Cond.instanceMethod yX7_drift ∈ lw_tbl := tb_4 (List.mem_of_getElem? (i := 102) rfl)
set_option maxRecDepth 4000 in
theorem mw_4_103 : Cond.selects "StarWalk" yX7_drift yX7_drift ∈ lw_tbl := tb_4 (List.mem_of_getElem? (i := 103) rfl)
set_option maxRecDepth 4000 in
theorem mw_4_104 : Cond.code yX7_drift prog_1_method_37_code 7 (some .int) ∈ lw_tbl := tb_4 (List.mem_of_getElem? (i := 104) rfl)
set_option maxRecDepth 4000 in
theorem mw_4_105 : Cond.constant "StarWalk" 288 (1103515245 : Int32) ∈ lw_tbl := tb_4 (List.mem_of_getElem? (i := 105) rfl)
set_option maxRecDepth 4000 in
theorem mw_4_106 : Cond.methodLink "StarWalkLaw" 151 yX7_keep ∈ lw_tbl := tb_4 (List.mem_of_getElem? (i := 106) rfl)
set_option maxRecDepth 4000 in
theorem mw_4_107 : Cond.instanceMethod yX7_keep ∈ lw_tbl := tb_4 (List.mem_of_getElem? (i := 107) rfl)
set_option maxRecDepth 4000 in
theorem mw_4_108 : Cond.selects "StarWalk" yX7_keep yX7_keep ∈ lw_tbl := tb_4 (List.mem_of_getElem? (i := 108) rfl)
set_option maxRecDepth 4000 in
theorem mw_4_109 : Cond.code yX7_keep prog_1_method_38_code 3 (some .int) ∈ lw_tbl := tb_4 (List.mem_of_getElem? (i := 109) rfl)
set_option maxRecDepth 4000 in
theorem mw_4_110 : Cond.methodLink "StarWalkLaw" 155 yX7_back ∈ lw_tbl := tb_4 (List.mem_of_getElem? (i := 110) rfl)
set_option maxRecDepth 4000 in
theorem mw_4_111 : Cond.instanceMethod yX7_back ∈ lw_tbl := tb_4 (List.mem_of_getElem? (i := 111) rfl)
set_option maxRecDepth 4000 in
theorem mw_4_112 : Cond.selects "StarWalk" yX7_back yX7_back ∈ lw_tbl := tb_4 (List.mem_of_getElem? (i := 112) rfl)
set_option maxRecDepth 4000 in
theorem mw_4_113 : Cond.code yX7_back prog_1_method_39_code 2 (some .int) ∈ lw_tbl := tb_4 (List.mem_of_getElem? (i := 113) rfl)
set_option maxRecDepth 4000 in
theorem mw_4_114 : Cond.methodLink "StarWalkLaw" 159 yX7_sheet ∈ lw_tbl := tb_4 (List.mem_of_getElem? (i := 114) rfl)
set_option maxRecDepth 4000 in
theorem mw_4_115 : Cond.instanceMethod yX7_sheet ∈ lw_tbl := tb_4 (List.mem_of_getElem? (i := 115) rfl)
set_option maxRecDepth 4000 in
theorem mw_4_116 : Cond.selects "StarWalk" yX7_sheet yX7_sheet ∈ lw_tbl := tb_4 (List.mem_of_getElem? (i := 116) rfl)
set_option maxRecDepth 4000 in
theorem mw_4_117 : Cond.code yX7_sheet prog_1_method_40_code 4 (some .int) ∈ lw_tbl := tb_4 (List.mem_of_getElem? (i := 117) rfl)
set_option maxRecDepth 4000 in
theorem mw_4_118 : Cond.methodLink "StarWalk" 289 yX7_isSheet ∈ lw_tbl := tb_4 (List.mem_of_getElem? (i := 118) rfl)
set_option maxRecDepth 4000 in
theorem mw_4_119 : Cond.static yX7_isSheet ∈ lw_tbl := tb_4 (List.mem_of_getElem? (i := 119) rfl)
set_option maxRecDepth 4000 in
theorem mw_4_120 : Cond.code yX7_isSheet prog_1_method_50_code 1 (some .boolean) ∈ lw_tbl := tb_4 (List.mem_of_getElem? (i := 120) rfl)
set_option maxRecDepth 4000 in
theorem mw_4_121 : Cond.methodLink "StarWalk" 292 yX7_isLane ∈ lw_tbl := tb_4 (List.mem_of_getElem? (i := 121) rfl)
set_option maxRecDepth 4000 in
theorem mw_4_122 : Cond.static yX7_isLane ∈ lw_tbl := tb_4 (List.mem_of_getElem? (i := 122) rfl)
set_option maxRecDepth 4000 in
theorem mw_4_123 : Cond.code yX7_isLane prog_1_method_51_code 1 (some .boolean) ∈ lw_tbl := tb_4 (List.mem_of_getElem? (i := 123) rfl)
set_option maxRecDepth 4000 in
theorem mw_4_124 : Cond.methodLink "StarWalk" 295 yX4_renew ∈ lw_tbl := tb_4 (List.mem_of_getElem? (i := 124) rfl)
set_option maxRecDepth 4000 in
theorem mw_4_125 : Cond.instanceMethod yX4_renew ∈ lw_tbl := tb_4 (List.mem_of_getElem? (i := 125) rfl)
set_option maxRecDepth 4000 in
theorem mw_4_126 : Cond.selects "StarWalk$Sheet" yX4_renew yX4_renew ∈ lw_tbl := tb_4 (List.mem_of_getElem? (i := 126) rfl)
set_option maxRecDepth 4000 in
theorem mw_4_127 : Cond.code yX4_renew prog_6_method_2_code 4 none ∈ lw_tbl := tb_4 (List.mem_of_getElem? (i := 127) rfl)
set_option maxRecDepth 4000 in
theorem mw_4_128 : Cond.methodLink "StarWalkLaw" 163 yX7_lay ∈ lw_tbl := tb_4 (List.mem_of_getElem? (i := 128) rfl)
set_option maxRecDepth 4000 in
theorem mw_4_129 : Cond.instanceMethod yX7_lay ∈ lw_tbl := tb_4 (List.mem_of_getElem? (i := 129) rfl)
set_option maxRecDepth 4000 in
theorem mw_4_130 : Cond.selects "StarWalk" yX7_lay yX7_lay ∈ lw_tbl := tb_4 (List.mem_of_getElem? (i := 130) rfl)
set_option maxRecDepth 4000 in
theorem mw_4_131 : Cond.code yX7_lay prog_1_method_41_code 6 (some .int) ∈ lw_tbl := tb_4 (List.mem_of_getElem? (i := 131) rfl)
set_option maxRecDepth 4000 in
theorem mw_4_132 : Cond.methodLink "StarWalk" 302 yX4_tearAt ∈ lw_tbl := tb_4 (List.mem_of_getElem? (i := 132) rfl)
set_option maxRecDepth 4000 in
theorem mw_4_133 : Cond.instanceMethod yX4_tearAt ∈ lw_tbl := tb_4 (List.mem_of_getElem? (i := 133) rfl)
set_option maxRecDepth 4000 in
theorem mw_4_134 : Cond.selects "StarWalk$Sheet" yX4_tearAt yX4_tearAt ∈ lw_tbl := tb_4 (List.mem_of_getElem? (i := 134) rfl)
set_option maxRecDepth 4000 in
theorem mw_4_135 : Cond.code yX4_tearAt prog_6_method_3_code 3 (some .int) ∈ lw_tbl := tb_4 (List.mem_of_getElem? (i := 135) rfl)
set_option maxRecDepth 4000 in
theorem mw_4_136 : Cond.methodLink "StarWalk" 309 yX4_lowest ∈ lw_tbl := tb_4 (List.mem_of_getElem? (i := 136) rfl)
set_option maxRecDepth 4000 in
theorem mw_4_137 : Cond.instanceMethod yX4_lowest ∈ lw_tbl := tb_4 (List.mem_of_getElem? (i := 137) rfl)
set_option maxRecDepth 4000 in
theorem mw_4_138 : Cond.selects "StarWalk$Sheet" yX4_lowest yX4_lowest ∈ lw_tbl := tb_4 (List.mem_of_getElem? (i := 138) rfl)
set_option maxRecDepth 4000 in
theorem mw_4_139 : Cond.code yX4_lowest prog_6_method_4_code 2 (some .int) ∈ lw_tbl := tb_4 (List.mem_of_getElem? (i := 139) rfl)
set_option maxRecDepth 4000 in
theorem mw_4_140 : Cond.methodLink "StarWalkLaw" 167 yX7_read ∈ lw_tbl := tb_4 (List.mem_of_getElem? (i := 140) rfl)
set_option maxRecDepth 4000 in
theorem mw_4_141 : Cond.instanceMethod yX7_read ∈ lw_tbl := tb_4 (List.mem_of_getElem? (i := 141) rfl)
set_option maxRecDepth 4000 in
theorem mw_4_142 : Cond.selects "StarWalk" yX7_read yX7_read ∈ lw_tbl := tb_4 (List.mem_of_getElem? (i := 142) rfl)
set_option maxRecDepth 4000 in
theorem mw_4_143 : Cond.code yX7_read prog_1_method_42_code 8 (some .int) ∈ lw_tbl := tb_4 (List.mem_of_getElem? (i := 143) rfl)
set_option maxRecDepth 4000 in
theorem mw_4_144 : Cond.methodLink "StarWalk" 312 yX7_endRead ∈ lw_tbl := tb_4 (List.mem_of_getElem? (i := 144) rfl)
set_option maxRecDepth 4000 in
theorem mw_4_145 : Cond.privateMethod yX7_endRead ∈ lw_tbl := tb_4 (List.mem_of_getElem? (i := 145) rfl)
set_option maxRecDepth 4000 in
theorem mw_4_146 : Cond.instanceMethod yX7_endRead ∈ lw_tbl := tb_4 (List.mem_of_getElem? (i := 146) rfl)
set_option maxRecDepth 4000 in
theorem mw_4_147 : Cond.code yX7_endRead prog_1_method_43_code 3 (some .int) ∈ lw_tbl := tb_4 (List.mem_of_getElem? (i := 147) rfl)
set_option maxRecDepth 4000 in
theorem mw_4_148 : Cond.methodLink "StarWalkLaw" 172 yX7_torn ∈ lw_tbl := tb_4 (List.mem_of_getElem? (i := 148) rfl)
set_option maxRecDepth 4000 in
theorem mw_4_149 : Cond.instanceMethod yX7_torn ∈ lw_tbl := tb_4 (List.mem_of_getElem? (i := 149) rfl)
set_option maxRecDepth 4000 in
theorem mw_4_150 : Cond.selects "StarWalk" yX7_torn yX7_torn ∈ lw_tbl := tb_4 (List.mem_of_getElem? (i := 150) rfl)
set_option maxRecDepth 4000 in
theorem mw_4_151 : Cond.code yX7_torn prog_1_method_44_code 1 (some .int) ∈ lw_tbl := tb_4 (List.mem_of_getElem? (i := 151) rfl)
set_option maxRecDepth 4000 in
theorem mw_4_152 : Cond.methodLink "StarWalkLaw" 176 yX7_count ∈ lw_tbl := tb_4 (List.mem_of_getElem? (i := 152) rfl)
set_option maxRecDepth 4000 in
theorem mw_4_153 : Cond.instanceMethod yX7_count ∈ lw_tbl := tb_4 (List.mem_of_getElem? (i := 153) rfl)
set_option maxRecDepth 4000 in
theorem mw_4_154 : Cond.selects "StarWalk" yX7_count yX7_count ∈ lw_tbl := tb_4 (List.mem_of_getElem? (i := 154) rfl)
set_option maxRecDepth 4000 in
theorem mw_4_155 : Cond.code yX7_count prog_1_method_45_code 2 (some .int) ∈ lw_tbl := tb_4 (List.mem_of_getElem? (i := 155) rfl)
set_option maxRecDepth 4000 in
theorem mw_4_156 : Cond.classLink "StarWalkLaw" 10 "StarWalkModel" ∈ lw_tbl := tb_4 (List.mem_of_getElem? (i := 156) rfl)
set_option maxRecDepth 4000 in
theorem mw_4_157 : Cond.instantiable "StarWalkModel" 31 ∈ lw_tbl := tb_4 (List.mem_of_getElem? (i := 157) rfl)
set_option maxRecDepth 4000 in
theorem mw_4_158 : Cond.methodLink "StarWalkLaw" 12 yX8_init ∈ lw_tbl := tb_4 (List.mem_of_getElem? (i := 158) rfl)
set_option maxRecDepth 4000 in
theorem mw_4_159 : Cond.instanceMethod yX8_init ∈ lw_tbl := tb_4 (List.mem_of_getElem? (i := 159) rfl)
set_option maxRecDepth 4000 in
theorem mw_4_160 : Cond.code yX8_init prog_10_method_1_code 2 none ∈ lw_tbl := tb_4 (List.mem_of_getElem? (i := 160) rfl)
set_option maxRecDepth 4000 in
theorem mw_4_161 : Cond.methodLink "StarWalkModel" 1 objectInit ∈ lw_tbl := tb_4 (List.mem_of_getElem? (i := 161) rfl)
set_option maxRecDepth 4000 in
theorem mw_4_162 : Cond.methodLink "StarWalkModel" 38 yX8_firstDraft ∈ lw_tbl := tb_4 (List.mem_of_getElem? (i := 162) rfl)
set_option maxRecDepth 4000 in
theorem mw_4_163 : Cond.privateMethod yX8_firstDraft ∈ lw_tbl := tb_4 (List.mem_of_getElem? (i := 163) rfl)
set_option maxRecDepth 4000 in
theorem mw_4_164 : Cond.instanceMethod yX8_firstDraft ∈ lw_tbl := tb_4 (List.mem_of_getElem? (i := 164) rfl)
set_option maxRecDepth 4000 in
theorem mw_4_165 : Cond.code yX8_firstDraft prog_10_method_5_code 2 none ∈ lw_tbl := tb_4 (List.mem_of_getElem? (i := 165) rfl)
set_option maxRecDepth 4000 in
theorem mw_4_166 : Cond.methodLink "StarWalkModel" 41 yX8_keepDraft ∈ lw_tbl := tb_4 (List.mem_of_getElem? (i := 166) rfl)
set_option maxRecDepth 4000 in
theorem mw_4_167 : Cond.privateMethod yX8_keepDraft ∈ lw_tbl := tb_4 (List.mem_of_getElem? (i := 167) rfl)
set_option maxRecDepth 4000 in
theorem mw_4_168 : Cond.instanceMethod yX8_keepDraft ∈ lw_tbl := tb_4 (List.mem_of_getElem? (i := 168) rfl)
set_option maxRecDepth 4000 in
theorem mw_4_169 : Cond.code yX8_keepDraft prog_10_method_6_code 2 none ∈ lw_tbl := tb_4 (List.mem_of_getElem? (i := 169) rfl)
set_option maxRecDepth 4000 in
theorem mw_4_170 : Cond.fieldLink "StarWalkModel" 7 "StarWalkModel" "st" "[I" ∈ lw_tbl := tb_4 (List.mem_of_getElem? (i := 170) rfl)
set_option maxRecDepth 4000 in
theorem mw_4_171 : Cond.fieldLink "StarWalkModel" 13 "StarWalkModel" "at" "[I" ∈ lw_tbl := tb_4 (List.mem_of_getElem? (i := 171) rfl)
set_option maxRecDepth 4000 in
theorem mw_4_172 : Cond.fieldLink "StarWalkModel" 16 "StarWalkModel" "isKept" "[Z" ∈ lw_tbl := tb_4 (List.mem_of_getElem? (i := 172) rfl)
set_option maxRecDepth 4000 in
theorem mw_4_173 : Cond.fieldLink "StarWalkModel" 60 "StarWalkModel" "stars" "I" ∈ lw_tbl := tb_4 (List.mem_of_getElem? (i := 173) rfl)
set_option maxRecDepth 4000 in
theorem mw_4_174 : Cond.fieldLink "StarWalkModel" 63 "StarWalkModel" "walkers" "I" ∈ lw_tbl := tb_4 (List.mem_of_getElem? (i := 174) rfl)
set_option maxRecDepth 4000 in
theorem mw_4_175 : Cond.fieldLink "StarWalkModel" 20 "StarWalkModel" "draft" "[I" ∈ lw_tbl := tb_4 (List.mem_of_getElem? (i := 175) rfl)
set_option maxRecDepth 4000 in
theorem mw_4_176 : Cond.fieldLink "StarWalkModel" 44 "StarWalkModel" "dStars" "I" ∈ lw_tbl := tb_4 (List.mem_of_getElem? (i := 176) rfl)
set_option maxRecDepth 4000 in
theorem mw_4_177 : Cond.fieldLink "StarWalkModel" 48 "StarWalkModel" "dWalkers" "I" ∈ lw_tbl := tb_4 (List.mem_of_getElem? (i := 177) rfl)
set_option maxRecDepth 4000 in
theorem mw_4_178 : Cond.fieldLink "StarWalkModel" 51 "StarWalkModel" "knownOnes" "I" ∈ lw_tbl := tb_4 (List.mem_of_getElem? (i := 178) rfl)
set_option maxRecDepth 4000 in
theorem mw_4_179 : Cond.fieldLink "StarWalkModel" 54 "StarWalkModel" "toldLines" "I" ∈ lw_tbl := tb_4 (List.mem_of_getElem? (i := 179) rfl)
set_option maxRecDepth 4000 in
theorem mw_4_180 : Cond.fieldLink "StarWalkModel" 57 "StarWalkModel" "highest" "I" ∈ lw_tbl := tb_4 (List.mem_of_getElem? (i := 180) rfl)
set_option maxRecDepth 4000 in
theorem mw_4_181 : Cond.fieldLink "StarWalkModel" 23 "StarWalkModel" "tape" "[I" ∈ lw_tbl := tb_4 (List.mem_of_getElem? (i := 181) rfl)
set_option maxRecDepth 4000 in
theorem mw_4_182 : Cond.fieldLink "StarWalkModel" 72 "StarWalkModel" "taped" "I" ∈ lw_tbl := tb_4 (List.mem_of_getElem? (i := 182) rfl)
set_option maxRecDepth 4000 in
theorem mw_4_183 : Cond.fieldLink "StarWalkModel" 84 "StarWalkModel" "pos" "I" ∈ lw_tbl := tb_4 (List.mem_of_getElem? (i := 183) rfl)
set_option maxRecDepth 4000 in
theorem mw_4_184 : Cond.fieldLink "StarWalkModel" 78 "StarWalkModel" "from" "I" ∈ lw_tbl := tb_4 (List.mem_of_getElem? (i := 184) rfl)
set_option maxRecDepth 4000 in
theorem mw_4_185 : Cond.fieldLink "StarWalkModel" 99 "StarWalkModel" "sort" "I" ∈ lw_tbl := tb_4 (List.mem_of_getElem? (i := 185) rfl)
set_option maxRecDepth 4000 in
theorem mw_4_186 : Cond.fieldLink "StarWalkModel" 110 "StarWalkModel" "value" "I" ∈ lw_tbl := tb_4 (List.mem_of_getElem? (i := 186) rfl)
set_option maxRecDepth 4000 in
theorem mw_4_187 : Cond.fieldLink "StarWalkModel" 75 "StarWalkModel" "fault" "I" ∈ lw_tbl := tb_4 (List.mem_of_getElem? (i := 187) rfl)
set_option maxRecDepth 4000 in
theorem mw_4_188 : Cond.fieldLink "StarWalkModel" 81 "StarWalkModel" "wrongAt" "I" ∈ lw_tbl := tb_4 (List.mem_of_getElem? (i := 188) rfl)
set_option maxRecDepth 4000 in
theorem mw_4_189 : Cond.fieldLink "StarWalkModel" 169 "StarWalkModel" "blindSteps" "I" ∈ lw_tbl := tb_4 (List.mem_of_getElem? (i := 189) rfl)
set_option maxRecDepth 4000 in
theorem mw_4_190 : Cond.fieldLink "StarWalkModel" 182 "StarWalkModel" "passedOver" "I" ∈ lw_tbl := tb_4 (List.mem_of_getElem? (i := 190) rfl)
set_option maxRecDepth 4000 in
theorem mw_4_191 : Cond.fieldLink "StarWalkModel" 227 "StarWalkModel" "bestSide" "I" ∈ lw_tbl := tb_4 (List.mem_of_getElem? (i := 191) rfl)
set_option maxRecDepth 4000 in
theorem mw_4_192 : Cond.fieldLink "StarWalkModel" 230 "StarWalkModel" "bestMiles" "I" ∈ lw_tbl := tb_4 (List.mem_of_getElem? (i := 192) rfl)
set_option maxRecDepth 4000 in
theorem mw_4_193 : Cond.fieldLink "StarWalkModel" 265 "StarWalkModel" "wellSum" "J" ∈ lw_tbl := tb_4 (List.mem_of_getElem? (i := 193) rfl)
set_option maxRecDepth 4000 in
theorem mw_4_194 : Cond.fieldLink "StarWalkModel" 269 "StarWalkModel" "milesSum" "J" ∈ lw_tbl := tb_4 (List.mem_of_getElem? (i := 194) rfl)
set_option maxRecDepth 4000 in
theorem mw_4_195 : Cond.fieldLink "StarWalkModel" 272 "StarWalkModel" "allWays" "J" ∈ lw_tbl := tb_4 (List.mem_of_getElem? (i := 195) rfl)
set_option maxRecDepth 4000 in
theorem mw_4_196 : Cond.fieldLink "StarWalkModel" 26 "StarWalkModel" "lanes" "[I" ∈ lw_tbl := tb_4 (List.mem_of_getElem? (i := 196) rfl)
set_option maxRecDepth 4000 in
theorem mw_4_197 : Cond.fieldLink "StarWalkModel" 29 "StarWalkModel" "sizes" "[I" ∈ lw_tbl := tb_4 (List.mem_of_getElem? (i := 197) rfl)
set_option maxRecDepth 4000 in
theorem mw_4_198 : Cond.fieldLink "StarWalkModel" 32 "StarWalkModel" "cells" "[I" ∈ lw_tbl := tb_4 (List.mem_of_getElem? (i := 198) rfl)
set_option maxRecDepth 4000 in
theorem mw_4_199 : Cond.fieldLink "StarWalkModel" 306 "StarWalkModel" "torn" "I" ∈ lw_tbl := tb_4 (List.mem_of_getElem? (i := 199) rfl)
set_option maxRecDepth 4000 in
theorem mw_4_200 : Cond.fieldLink "StarWalkModel" 35 "StarWalkModel" "had" "[I" ∈ lw_tbl := tb_4 (List.mem_of_getElem? (i := 200) rfl)
set_option maxRecDepth 4000 in
theorem mw_4_201 : Cond.laysFinal "StarWalkModel" "StarWalkModel" "st" "[I" ∈ lw_tbl := tb_4 (List.mem_of_getElem? (i := 201) rfl)
set_option maxRecDepth 4000 in
theorem mw_4_202 : Cond.soleField "StarWalkModel" "st" ∈ lw_tbl := tb_4 (List.mem_of_getElem? (i := 202) rfl)
set_option maxRecDepth 4000 in
theorem mw_4_203 : Cond.laysFinal "StarWalkModel" "StarWalkModel" "at" "[I" ∈ lw_tbl := tb_4 (List.mem_of_getElem? (i := 203) rfl)
set_option maxRecDepth 4000 in
theorem mw_4_204 : Cond.soleField "StarWalkModel" "at" ∈ lw_tbl := tb_4 (List.mem_of_getElem? (i := 204) rfl)
set_option maxRecDepth 4000 in
theorem mw_4_205 : Cond.laysFinal "StarWalkModel" "StarWalkModel" "isKept" "[Z" ∈ lw_tbl := tb_4 (List.mem_of_getElem? (i := 205) rfl)
set_option maxRecDepth 4000 in
theorem mw_4_206 : Cond.soleField "StarWalkModel" "isKept" ∈ lw_tbl := tb_4 (List.mem_of_getElem? (i := 206) rfl)
set_option maxRecDepth 4000 in
theorem mw_4_207 : Cond.lays "StarWalkModel" "StarWalkModel" "stars" "I" ∈ lw_tbl := tb_4 (List.mem_of_getElem? (i := 207) rfl)
set_option maxRecDepth 4000 in
theorem mw_4_208 : Cond.soleField "StarWalkModel" "stars" ∈ lw_tbl := tb_4 (List.mem_of_getElem? (i := 208) rfl)
set_option maxRecDepth 4000 in
theorem mw_4_209 : Cond.lays "StarWalkModel" "StarWalkModel" "walkers" "I" ∈ lw_tbl := tb_4 (List.mem_of_getElem? (i := 209) rfl)
set_option maxRecDepth 4000 in
theorem mw_4_210 : Cond.soleField "StarWalkModel" "walkers" ∈ lw_tbl := tb_4 (List.mem_of_getElem? (i := 210) rfl)
set_option maxRecDepth 4000 in
theorem mw_4_211 : Cond.laysFinal "StarWalkModel" "StarWalkModel" "draft" "[I" ∈ lw_tbl := tb_4 (List.mem_of_getElem? (i := 211) rfl)
set_option maxRecDepth 4000 in
theorem mw_4_212 : Cond.soleField "StarWalkModel" "draft" ∈ lw_tbl := tb_4 (List.mem_of_getElem? (i := 212) rfl)
set_option maxRecDepth 4000 in
theorem mw_4_213 : Cond.lays "StarWalkModel" "StarWalkModel" "dStars" "I" ∈ lw_tbl := tb_4 (List.mem_of_getElem? (i := 213) rfl)
set_option maxRecDepth 4000 in
theorem mw_4_214 : Cond.soleField "StarWalkModel" "dStars" ∈ lw_tbl := tb_4 (List.mem_of_getElem? (i := 214) rfl)
set_option maxRecDepth 4000 in
theorem mw_4_215 : Cond.lays "StarWalkModel" "StarWalkModel" "dWalkers" "I" ∈ lw_tbl := tb_4 (List.mem_of_getElem? (i := 215) rfl)
set_option maxRecDepth 4000 in
theorem mw_4_216 : Cond.soleField "StarWalkModel" "dWalkers" ∈ lw_tbl := tb_4 (List.mem_of_getElem? (i := 216) rfl)
set_option maxRecDepth 4000 in
theorem mw_4_217 : Cond.lays "StarWalkModel" "StarWalkModel" "knownOnes" "I" ∈ lw_tbl := tb_4 (List.mem_of_getElem? (i := 217) rfl)
set_option maxRecDepth 4000 in
theorem mw_4_218 : Cond.soleField "StarWalkModel" "knownOnes" ∈ lw_tbl := tb_4 (List.mem_of_getElem? (i := 218) rfl)
set_option maxRecDepth 4000 in
theorem mw_4_219 : Cond.lays "StarWalkModel" "StarWalkModel" "toldLines" "I" ∈ lw_tbl := tb_4 (List.mem_of_getElem? (i := 219) rfl)
set_option maxRecDepth 4000 in
theorem mw_4_220 : Cond.soleField "StarWalkModel" "toldLines" ∈ lw_tbl := tb_4 (List.mem_of_getElem? (i := 220) rfl)
set_option maxRecDepth 4000 in
theorem mw_4_221 : Cond.lays "StarWalkModel" "StarWalkModel" "highest" "I" ∈ lw_tbl := tb_4 (List.mem_of_getElem? (i := 221) rfl)
set_option maxRecDepth 4000 in
theorem mw_4_222 : Cond.soleField "StarWalkModel" "highest" ∈ lw_tbl := tb_4 (List.mem_of_getElem? (i := 222) rfl)
set_option maxRecDepth 4000 in
theorem mw_4_223 : Cond.laysFinal "StarWalkModel" "StarWalkModel" "tape" "[I" ∈ lw_tbl := tb_4 (List.mem_of_getElem? (i := 223) rfl)
set_option maxRecDepth 4000 in
theorem mw_4_224 : Cond.soleField "StarWalkModel" "tape" ∈ lw_tbl := tb_4 (List.mem_of_getElem? (i := 224) rfl)
set_option maxRecDepth 4000 in
theorem mw_4_225 : Cond.lays "StarWalkModel" "StarWalkModel" "taped" "I" ∈ lw_tbl := tb_4 (List.mem_of_getElem? (i := 225) rfl)
set_option maxRecDepth 4000 in
theorem mw_4_226 : Cond.soleField "StarWalkModel" "taped" ∈ lw_tbl := tb_4 (List.mem_of_getElem? (i := 226) rfl)
set_option maxRecDepth 4000 in
theorem mw_4_227 : Cond.lays "StarWalkModel" "StarWalkModel" "pos" "I" ∈ lw_tbl := tb_4 (List.mem_of_getElem? (i := 227) rfl)
set_option maxRecDepth 4000 in
theorem mw_4_228 : Cond.soleField "StarWalkModel" "pos" ∈ lw_tbl := tb_4 (List.mem_of_getElem? (i := 228) rfl)
set_option maxRecDepth 4000 in
theorem mw_4_229 : Cond.lays "StarWalkModel" "StarWalkModel" "from" "I" ∈ lw_tbl := tb_4 (List.mem_of_getElem? (i := 229) rfl)
set_option maxRecDepth 4000 in
theorem mw_4_230 : Cond.soleField "StarWalkModel" "from" ∈ lw_tbl := tb_4 (List.mem_of_getElem? (i := 230) rfl)
set_option maxRecDepth 4000 in
theorem mw_4_231 : Cond.lays "StarWalkModel" "StarWalkModel" "sort" "I" ∈ lw_tbl := tb_4 (List.mem_of_getElem? (i := 231) rfl)
set_option maxRecDepth 4000 in
theorem mw_4_232 : Cond.soleField "StarWalkModel" "sort" ∈ lw_tbl := tb_4 (List.mem_of_getElem? (i := 232) rfl)
set_option maxRecDepth 4000 in
theorem mw_4_233 : Cond.lays "StarWalkModel" "StarWalkModel" "value" "I" ∈ lw_tbl := tb_4 (List.mem_of_getElem? (i := 233) rfl)
set_option maxRecDepth 4000 in
theorem mw_4_234 : Cond.soleField "StarWalkModel" "value" ∈ lw_tbl := tb_4 (List.mem_of_getElem? (i := 234) rfl)
set_option maxRecDepth 4000 in
theorem mw_4_235 : Cond.lays "StarWalkModel" "StarWalkModel" "fault" "I" ∈ lw_tbl := tb_4 (List.mem_of_getElem? (i := 235) rfl)
set_option maxRecDepth 4000 in
theorem mw_4_236 : Cond.soleField "StarWalkModel" "fault" ∈ lw_tbl := tb_4 (List.mem_of_getElem? (i := 236) rfl)
set_option maxRecDepth 4000 in
theorem mw_4_237 : Cond.lays "StarWalkModel" "StarWalkModel" "wrongAt" "I" ∈ lw_tbl := tb_4 (List.mem_of_getElem? (i := 237) rfl)
set_option maxRecDepth 4000 in
theorem mw_4_238 : Cond.soleField "StarWalkModel" "wrongAt" ∈ lw_tbl := tb_4 (List.mem_of_getElem? (i := 238) rfl)
set_option maxRecDepth 4000 in
theorem mw_4_239 : Cond.lays "StarWalkModel" "StarWalkModel" "blindSteps" "I" ∈ lw_tbl := tb_4 (List.mem_of_getElem? (i := 239) rfl)
set_option maxRecDepth 4000 in
theorem mw_5_0 : Cond.soleField "StarWalkModel" "blindSteps" ∈ lw_tbl := tb_5 (List.mem_of_getElem? (i := 0) rfl)
set_option maxRecDepth 4000 in
theorem mw_5_1 : Cond.lays "StarWalkModel" "StarWalkModel" "passedOver" "I" ∈ lw_tbl := tb_5 (List.mem_of_getElem? (i := 1) rfl)
set_option maxRecDepth 4000 in
theorem mw_5_2 : Cond.soleField "StarWalkModel" "passedOver" ∈ lw_tbl := tb_5 (List.mem_of_getElem? (i := 2) rfl)
set_option maxRecDepth 4000 in
theorem mw_5_3 : Cond.lays "StarWalkModel" "StarWalkModel" "bestSide" "I" ∈ lw_tbl := tb_5 (List.mem_of_getElem? (i := 3) rfl)
set_option maxRecDepth 4000 in
theorem mw_5_4 : Cond.soleField "StarWalkModel" "bestSide" ∈ lw_tbl := tb_5 (List.mem_of_getElem? (i := 4) rfl)
set_option maxRecDepth 4000 in
theorem mw_5_5 : Cond.lays "StarWalkModel" "StarWalkModel" "bestMiles" "I" ∈ lw_tbl := tb_5 (List.mem_of_getElem? (i := 5) rfl)
set_option maxRecDepth 4000 in
theorem mw_5_6 : Cond.soleField "StarWalkModel" "bestMiles" ∈ lw_tbl := tb_5 (List.mem_of_getElem? (i := 6) rfl)
set_option maxRecDepth 4000 in
theorem mw_5_7 : Cond.lays "StarWalkModel" "StarWalkModel" "wellSum" "J" ∈ lw_tbl := tb_5 (List.mem_of_getElem? (i := 7) rfl)
set_option maxRecDepth 4000 in
theorem mw_5_8 : Cond.soleField "StarWalkModel" "wellSum" ∈ lw_tbl := tb_5 (List.mem_of_getElem? (i := 8) rfl)
set_option maxRecDepth 4000 in
theorem mw_5_9 : Cond.lays "StarWalkModel" "StarWalkModel" "milesSum" "J" ∈ lw_tbl := tb_5 (List.mem_of_getElem? (i := 9) rfl)
set_option maxRecDepth 4000 in
theorem mw_5_10 : Cond.soleField "StarWalkModel" "milesSum" ∈ lw_tbl := tb_5 (List.mem_of_getElem? (i := 10) rfl)
set_option maxRecDepth 4000 in
theorem mw_5_11 : Cond.lays "StarWalkModel" "StarWalkModel" "allWays" "J" ∈ lw_tbl := tb_5 (List.mem_of_getElem? (i := 11) rfl)
set_option maxRecDepth 4000 in
theorem mw_5_12 : Cond.soleField "StarWalkModel" "allWays" ∈ lw_tbl := tb_5 (List.mem_of_getElem? (i := 12) rfl)
set_option maxRecDepth 4000 in
theorem mw_5_13 : Cond.laysFinal "StarWalkModel" "StarWalkModel" "lanes" "[I" ∈ lw_tbl := tb_5 (List.mem_of_getElem? (i := 13) rfl)
set_option maxRecDepth 4000 in
theorem mw_5_14 : Cond.soleField "StarWalkModel" "lanes" ∈ lw_tbl := tb_5 (List.mem_of_getElem? (i := 14) rfl)
set_option maxRecDepth 4000 in
theorem mw_5_15 : Cond.laysFinal "StarWalkModel" "StarWalkModel" "sizes" "[I" ∈ lw_tbl := tb_5 (List.mem_of_getElem? (i := 15) rfl)
set_option maxRecDepth 4000 in
theorem mw_5_16 : Cond.soleField "StarWalkModel" "sizes" ∈ lw_tbl := tb_5 (List.mem_of_getElem? (i := 16) rfl)
set_option maxRecDepth 4000 in
theorem mw_5_17 : Cond.laysFinal "StarWalkModel" "StarWalkModel" "cells" "[I" ∈ lw_tbl := tb_5 (List.mem_of_getElem? (i := 17) rfl)
set_option maxRecDepth 4000 in
theorem mw_5_18 : Cond.soleField "StarWalkModel" "cells" ∈ lw_tbl := tb_5 (List.mem_of_getElem? (i := 18) rfl)
set_option maxRecDepth 4000 in
theorem mw_5_19 : Cond.lays "StarWalkModel" "StarWalkModel" "torn" "I" ∈ lw_tbl := tb_5 (List.mem_of_getElem? (i := 19) rfl)
set_option maxRecDepth 4000 in
theorem mw_5_20 : Cond.soleField "StarWalkModel" "torn" ∈ lw_tbl := tb_5 (List.mem_of_getElem? (i := 20) rfl)
set_option maxRecDepth 4000 in
theorem mw_5_21 : Cond.laysFinal "StarWalkModel" "StarWalkModel" "had" "[I" ∈ lw_tbl := tb_5 (List.mem_of_getElem? (i := 21) rfl)
set_option maxRecDepth 4000 in
theorem mw_5_22 : Cond.soleField "StarWalkModel" "had" ∈ lw_tbl := tb_5 (List.mem_of_getElem? (i := 22) rfl)
set_option maxRecDepth 4000 in
theorem mw_5_23 : Cond.superclass "StarWalkModel" "java/lang/Object" ∈ lw_tbl := tb_5 (List.mem_of_getElem? (i := 23) rfl)
set_option maxRecDepth 4000 in
theorem mw_5_24 : Cond.methodLink "StarWalkLaw" 17 yX8_feed ∈ lw_tbl := tb_5 (List.mem_of_getElem? (i := 24) rfl)
set_option maxRecDepth 4000 in
theorem mw_5_25 : Cond.instanceMethod yX8_feed ∈ lw_tbl := tb_5 (List.mem_of_getElem? (i := 25) rfl)
set_option maxRecDepth 4000 in
theorem mw_5_26 : Cond.selects "StarWalkModel" yX8_feed yX8_feed ∈ lw_tbl := tb_5 (List.mem_of_getElem? (i := 26) rfl)
set_option maxRecDepth 4000 in
theorem mw_5_27 : Cond.code yX8_feed prog_10_method_7_code 2 (some .int) ∈ lw_tbl := tb_5 (List.mem_of_getElem? (i := 27) rfl)
set_option maxRecDepth 4000 in
theorem mw_5_28 : Cond.constantLong "StarWalkModel" 66 (127 : Int64) ∈ lw_tbl := tb_5 (List.mem_of_getElem? (i := 28) rfl)
set_option maxRecDepth 4000 in
theorem mw_5_29 : Cond.methodLink "StarWalkModel" 68 yX8_in ∈ lw_tbl := tb_5 (List.mem_of_getElem? (i := 29) rfl)
set_option maxRecDepth 4000 in
theorem mw_5_30 : Cond.static yX8_in ∈ lw_tbl := tb_5 (List.mem_of_getElem? (i := 30) rfl)
set_option maxRecDepth 4000 in
theorem mw_5_31 : Cond.code yX8_in prog_10_method_3_code 6 (some .boolean) ∈ lw_tbl := tb_5 (List.mem_of_getElem? (i := 31) rfl)
set_option maxRecDepth 4000 in
theorem mw_5_32 : Cond.methodLink "StarWalkLaw" 21 yX8_end ∈ lw_tbl := tb_5 (List.mem_of_getElem? (i := 32) rfl)
set_option maxRecDepth 4000 in
theorem mw_5_33 : Cond.instanceMethod yX8_end ∈ lw_tbl := tb_5 (List.mem_of_getElem? (i := 33) rfl)
set_option maxRecDepth 4000 in
theorem mw_5_34 : Cond.selects "StarWalkModel" yX8_end yX8_end ∈ lw_tbl := tb_5 (List.mem_of_getElem? (i := 34) rfl)
set_option maxRecDepth 4000 in
theorem mw_5_35 : Cond.code yX8_end prog_10_method_8_code 3 (some .int) ∈ lw_tbl := tb_5 (List.mem_of_getElem? (i := 35) rfl)
set_option maxRecDepth 4000 in
theorem mw_5_36 : Cond.methodLink "StarWalkLaw" 26 yX8_text ∈ lw_tbl := tb_5 (List.mem_of_getElem? (i := 36) rfl)
set_option maxRecDepth 4000 in
theorem mw_5_37 : Cond.instanceMethod yX8_text ∈ lw_tbl := tb_5 (List.mem_of_getElem? (i := 37) rfl)
set_option maxRecDepth 4000 in
theorem mw_5_38 : Cond.selects "StarWalkModel" yX8_text yX8_text ∈ lw_tbl := tb_5 (List.mem_of_getElem? (i := 38) rfl)
set_option maxRecDepth 4000 in
theorem mw_5_39 : Cond.code yX8_text prog_10_method_23_code 2 (some .int) ∈ lw_tbl := tb_5 (List.mem_of_getElem? (i := 39) rfl)
set_option maxRecDepth 4000 in
theorem mw_5_40 : Cond.methodLink "StarWalkModel" 121 yX8_next1 ∈ lw_tbl := tb_5 (List.mem_of_getElem? (i := 40) rfl)
set_option maxRecDepth 4000 in
theorem mw_5_41 : Cond.privateMethod yX8_next1 ∈ lw_tbl := tb_5 (List.mem_of_getElem? (i := 41) rfl)
set_option maxRecDepth 4000 in
theorem mw_5_42 : Cond.instanceMethod yX8_next1 ∈ lw_tbl := tb_5 (List.mem_of_getElem? (i := 42) rfl)
set_option maxRecDepth 4000 in
theorem mw_5_43 : Cond.code yX8_next1 prog_10_method_14_code 2 none ∈ lw_tbl := tb_5 (List.mem_of_getElem? (i := 43) rfl)
set_option maxRecDepth 4000 in
theorem mw_5_44 : Cond.methodLink "StarWalkModel" 87 yX8_byteAt ∈ lw_tbl := tb_5 (List.mem_of_getElem? (i := 44) rfl)
set_option maxRecDepth 4000 in
theorem mw_5_45 : Cond.privateMethod yX8_byteAt ∈ lw_tbl := tb_5 (List.mem_of_getElem? (i := 45) rfl)
set_option maxRecDepth 4000 in
theorem mw_5_46 : Cond.instanceMethod yX8_byteAt ∈ lw_tbl := tb_5 (List.mem_of_getElem? (i := 46) rfl)
set_option maxRecDepth 4000 in
theorem mw_5_47 : Cond.code yX8_byteAt prog_10_method_10_code 2 (some .int) ∈ lw_tbl := tb_5 (List.mem_of_getElem? (i := 47) rfl)
set_option maxRecDepth 4000 in
theorem mw_5_48 : Cond.constantLong "StarWalkModel" 102 (97 : Int64) ∈ lw_tbl := tb_5 (List.mem_of_getElem? (i := 48) rfl)
set_option maxRecDepth 4000 in
theorem mw_5_49 : Cond.constantLong "StarWalkModel" 104 (122 : Int64) ∈ lw_tbl := tb_5 (List.mem_of_getElem? (i := 49) rfl)
set_option maxRecDepth 4000 in
theorem mw_5_50 : Cond.constantLong "StarWalkModel" 106 (48 : Int64) ∈ lw_tbl := tb_5 (List.mem_of_getElem? (i := 50) rfl)
set_option maxRecDepth 4000 in
theorem mw_5_51 : Cond.constantLong "StarWalkModel" 108 (57 : Int64) ∈ lw_tbl := tb_5 (List.mem_of_getElem? (i := 51) rfl)
set_option maxRecDepth 4000 in
theorem mw_5_52 : Cond.methodLink "StarWalkModel" 113 yX8_needs ∈ lw_tbl := tb_5 (List.mem_of_getElem? (i := 52) rfl)
set_option maxRecDepth 4000 in
theorem mw_5_53 : Cond.privateMethod yX8_needs ∈ lw_tbl := tb_5 (List.mem_of_getElem? (i := 53) rfl)
set_option maxRecDepth 4000 in
theorem mw_5_54 : Cond.instanceMethod yX8_needs ∈ lw_tbl := tb_5 (List.mem_of_getElem? (i := 54) rfl)
set_option maxRecDepth 4000 in
theorem mw_5_55 : Cond.code yX8_needs prog_10_method_9_code 3 none ∈ lw_tbl := tb_5 (List.mem_of_getElem? (i := 55) rfl)
set_option maxRecDepth 4000 in
theorem mw_5_56 : Cond.methodLink "StarWalkModel" 147 yX8_readLine ∈ lw_tbl := tb_5 (List.mem_of_getElem? (i := 56) rfl)
set_option maxRecDepth 4000 in
theorem mw_5_57 : Cond.privateMethod yX8_readLine ∈ lw_tbl := tb_5 (List.mem_of_getElem? (i := 57) rfl)
set_option maxRecDepth 4000 in
theorem mw_5_58 : Cond.instanceMethod yX8_readLine ∈ lw_tbl := tb_5 (List.mem_of_getElem? (i := 58) rfl)
set_option maxRecDepth 4000 in
theorem mw_5_59 : Cond.code yX8_readLine prog_10_method_22_code 2 none ∈ lw_tbl := tb_5 (List.mem_of_getElem? (i := 59) rfl)
set_option maxRecDepth 4000 in
theorem mw_5_60 : Cond.methodLink "StarWalkModel" 139 yX8_lineNow ∈ lw_tbl := tb_5 (List.mem_of_getElem? (i := 60) rfl)
set_option maxRecDepth 4000 in
theorem mw_5_61 : Cond.privateMethod yX8_lineNow ∈ lw_tbl := tb_5 (List.mem_of_getElem? (i := 61) rfl)
set_option maxRecDepth 4000 in
theorem mw_5_62 : Cond.instanceMethod yX8_lineNow ∈ lw_tbl := tb_5 (List.mem_of_getElem? (i := 62) rfl)
set_option maxRecDepth 4000 in
theorem mw_5_63 : Cond.code yX8_lineNow prog_10_method_13_code 1 (some .int) ∈ lw_tbl := tb_5 (List.mem_of_getElem? (i := 63) rfl)
set_option maxRecDepth 4000 in
theorem mw_5_64 : Cond.methodLink "StarWalkModel" 91 yX8_is ∈ lw_tbl := tb_5 (List.mem_of_getElem? (i := 64) rfl)
set_option maxRecDepth 4000 in
theorem mw_5_65 : Cond.privateMethod yX8_is ∈ lw_tbl := tb_5 (List.mem_of_getElem? (i := 65) rfl)
set_option maxRecDepth 4000 in
theorem mw_5_66 : Cond.instanceMethod yX8_is ∈ lw_tbl := tb_5 (List.mem_of_getElem? (i := 66) rfl)
set_option maxRecDepth 4000 in
theorem mw_5_67 : Cond.code yX8_is prog_10_method_11_code 5 (some .boolean) ∈ lw_tbl := tb_5 (List.mem_of_getElem? (i := 67) rfl)
set_option maxRecDepth 4000 in
theorem mw_5_68 : Cond.methodLink "StarWalkModel" 95 yX8_ends ∈ lw_tbl := tb_5 (List.mem_of_getElem? (i := 68) rfl)
set_option maxRecDepth 4000 in
theorem mw_5_69 : Cond.privateMethod yX8_ends ∈ lw_tbl := tb_5 (List.mem_of_getElem? (i := 69) rfl)
set_option maxRecDepth 4000 in
theorem mw_5_70 : Cond.instanceMethod yX8_ends ∈ lw_tbl := tb_5 (List.mem_of_getElem? (i := 70) rfl)
set_option maxRecDepth 4000 in
theorem mw_5_71 : Cond.code yX8_ends prog_10_method_12_code 3 (some .boolean) ∈ lw_tbl := tb_5 (List.mem_of_getElem? (i := 71) rfl)
set_option maxRecDepth 4000 in
theorem mw_5_72 : Cond.methodLink "StarWalkModel" 143 yX8_readLineOf ∈ lw_tbl := tb_5 (List.mem_of_getElem? (i := 72) rfl)
set_option maxRecDepth 4000 in
theorem mw_5_73 : Cond.privateMethod yX8_readLineOf ∈ lw_tbl := tb_5 (List.mem_of_getElem? (i := 73) rfl)
set_option maxRecDepth 4000 in
theorem mw_5_74 : Cond.instanceMethod yX8_readLineOf ∈ lw_tbl := tb_5 (List.mem_of_getElem? (i := 74) rfl)
set_option maxRecDepth 4000 in
theorem mw_5_75 : Cond.code yX8_readLineOf prog_10_method_21_code 2 none ∈ lw_tbl := tb_5 (List.mem_of_getElem? (i := 75) rfl)
set_option maxRecDepth 4000 in
theorem mw_5_76 : Cond.methodLink "StarWalkModel" 127 yX8_readStar ∈ lw_tbl := tb_5 (List.mem_of_getElem? (i := 76) rfl)
set_option maxRecDepth 4000 in
theorem mw_5_77 : Cond.privateMethod yX8_readStar ∈ lw_tbl := tb_5 (List.mem_of_getElem? (i := 77) rfl)
set_option maxRecDepth 4000 in
theorem mw_5_78 : Cond.instanceMethod yX8_readStar ∈ lw_tbl := tb_5 (List.mem_of_getElem? (i := 78) rfl)
set_option maxRecDepth 4000 in
theorem mw_5_79 : Cond.code yX8_readStar prog_10_method_17_code 2 none ∈ lw_tbl := tb_5 (List.mem_of_getElem? (i := 79) rfl)
set_option maxRecDepth 4000 in
theorem mw_5_80 : Cond.methodLink "StarWalkModel" 124 yX8_readNumber ∈ lw_tbl := tb_5 (List.mem_of_getElem? (i := 80) rfl)
set_option maxRecDepth 4000 in
theorem mw_5_81 : Cond.privateMethod yX8_readNumber ∈ lw_tbl := tb_5 (List.mem_of_getElem? (i := 81) rfl)
set_option maxRecDepth 4000 in
theorem mw_5_82 : Cond.instanceMethod yX8_readNumber ∈ lw_tbl := tb_5 (List.mem_of_getElem? (i := 82) rfl)
set_option maxRecDepth 4000 in
theorem mw_5_83 : Cond.code yX8_readNumber prog_10_method_16_code 4 (some .int) ∈ lw_tbl := tb_5 (List.mem_of_getElem? (i := 83) rfl)
set_option maxRecDepth 4000 in
theorem mw_5_84 : Cond.methodLink "StarWalkModel" 117 yX8_looked ∈ lw_tbl := tb_5 (List.mem_of_getElem? (i := 84) rfl)
set_option maxRecDepth 4000 in
theorem mw_5_85 : Cond.privateMethod yX8_looked ∈ lw_tbl := tb_5 (List.mem_of_getElem? (i := 85) rfl)
set_option maxRecDepth 4000 in
theorem mw_5_86 : Cond.instanceMethod yX8_looked ∈ lw_tbl := tb_5 (List.mem_of_getElem? (i := 86) rfl)
set_option maxRecDepth 4000 in
theorem mw_5_87 : Cond.code yX8_looked prog_10_method_15_code 3 (some .int) ∈ lw_tbl := tb_5 (List.mem_of_getElem? (i := 87) rfl)
set_option maxRecDepth 4000 in
theorem mw_5_88 : Cond.methodLink "StarWalkModel" 130 yX8_readKnown ∈ lw_tbl := tb_5 (List.mem_of_getElem? (i := 88) rfl)
set_option maxRecDepth 4000 in
theorem mw_5_89 : Cond.privateMethod yX8_readKnown ∈ lw_tbl := tb_5 (List.mem_of_getElem? (i := 89) rfl)
set_option maxRecDepth 4000 in
theorem mw_5_90 : Cond.instanceMethod yX8_readKnown ∈ lw_tbl := tb_5 (List.mem_of_getElem? (i := 90) rfl)
set_option maxRecDepth 4000 in
theorem mw_5_91 : Cond.code yX8_readKnown prog_10_method_18_code 2 none ∈ lw_tbl := tb_5 (List.mem_of_getElem? (i := 91) rfl)
set_option maxRecDepth 4000 in
theorem mw_5_92 : Cond.methodLink "StarWalkModel" 133 yX8_readCloud ∈ lw_tbl := tb_5 (List.mem_of_getElem? (i := 92) rfl)
set_option maxRecDepth 4000 in
theorem mw_5_93 : Cond.privateMethod yX8_readCloud ∈ lw_tbl := tb_5 (List.mem_of_getElem? (i := 93) rfl)
set_option maxRecDepth 4000 in
theorem mw_5_94 : Cond.instanceMethod yX8_readCloud ∈ lw_tbl := tb_5 (List.mem_of_getElem? (i := 94) rfl)
set_option maxRecDepth 4000 in
theorem mw_5_95 : Cond.code yX8_readCloud prog_10_method_19_code 2 none ∈ lw_tbl := tb_5 (List.mem_of_getElem? (i := 95) rfl)
set_option maxRecDepth 4000 in
theorem mw_5_96 : Cond.methodLink "StarWalkModel" 136 yX8_readPlan ∈ lw_tbl := tb_5 (List.mem_of_getElem? (i := 96) rfl)
set_option maxRecDepth 4000 in
theorem mw_5_97 : Cond.privateMethod yX8_readPlan ∈ lw_tbl := tb_5 (List.mem_of_getElem? (i := 97) rfl)
set_option maxRecDepth 4000 in
theorem mw_5_98 : Cond.instanceMethod yX8_readPlan ∈ lw_tbl := tb_5 (List.mem_of_getElem? (i := 98) rfl)
set_option maxRecDepth 4000 in
theorem mw_5_99 : Cond.code yX8_readPlan prog_10_method_20_code 2 none ∈ lw_tbl := tb_5 (List.mem_of_getElem? (i := 99) rfl)
set_option maxRecDepth 4000 in
theorem mw_5_100 : Cond.methodLink "StarWalkLaw" 30 yX8_fault ∈ lw_tbl := tb_5 (List.mem_of_getElem? (i := 100) rfl)
set_option maxRecDepth 4000 in
theorem mw_5_101 : Cond.instanceMethod yX8_fault ∈ lw_tbl := tb_5 (List.mem_of_getElem? (i := 101) rfl)
set_option maxRecDepth 4000 in
theorem mw_5_102 : Cond.selects "StarWalkModel" yX8_fault yX8_fault ∈ lw_tbl := tb_5 (List.mem_of_getElem? (i := 102) rfl)
set_option maxRecDepth 4000 in
theorem mw_5_103 : Cond.code yX8_fault prog_10_method_24_code 1 (some .int) ∈ lw_tbl := tb_5 (List.mem_of_getElem? (i := 103) rfl)
set_option maxRecDepth 4000 in
theorem mw_5_104 : Cond.methodLink "StarWalkLaw" 34 yX8_rule ∈ lw_tbl := tb_5 (List.mem_of_getElem? (i := 104) rfl)
set_option maxRecDepth 4000 in
theorem mw_5_105 : Cond.instanceMethod yX8_rule ∈ lw_tbl := tb_5 (List.mem_of_getElem? (i := 105) rfl)
set_option maxRecDepth 4000 in
theorem mw_5_106 : Cond.selects "StarWalkModel" yX8_rule yX8_rule ∈ lw_tbl := tb_5 (List.mem_of_getElem? (i := 106) rfl)
set_option maxRecDepth 4000 in
theorem mw_5_107 : Cond.code yX8_rule prog_10_method_41_code 2 (some .int) ∈ lw_tbl := tb_5 (List.mem_of_getElem? (i := 107) rfl)
set_option maxRecDepth 4000 in
theorem mw_5_108 : Cond.methodLink "StarWalkModel" 188 yX8_starts ∈ lw_tbl := tb_5 (List.mem_of_getElem? (i := 108) rfl)
set_option maxRecDepth 4000 in
theorem mw_5_109 : Cond.privateMethod yX8_starts ∈ lw_tbl := tb_5 (List.mem_of_getElem? (i := 109) rfl)
set_option maxRecDepth 4000 in
theorem mw_5_110 : Cond.instanceMethod yX8_starts ∈ lw_tbl := tb_5 (List.mem_of_getElem? (i := 110) rfl)
set_option maxRecDepth 4000 in
theorem mw_5_111 : Cond.code yX8_starts prog_10_method_30_code 2 none ∈ lw_tbl := tb_5 (List.mem_of_getElem? (i := 111) rfl)
set_option maxRecDepth 4000 in
theorem mw_5_112 : Cond.methodLink "StarWalkModel" 191 yX8_isAtWell ∈ lw_tbl := tb_5 (List.mem_of_getElem? (i := 112) rfl)
set_option maxRecDepth 4000 in
theorem mw_5_113 : Cond.privateMethod yX8_isAtWell ∈ lw_tbl := tb_5 (List.mem_of_getElem? (i := 113) rfl)
set_option maxRecDepth 4000 in
theorem mw_5_114 : Cond.instanceMethod yX8_isAtWell ∈ lw_tbl := tb_5 (List.mem_of_getElem? (i := 114) rfl)
set_option maxRecDepth 4000 in
theorem mw_5_115 : Cond.code yX8_isAtWell prog_10_method_39_code 1 (some .boolean) ∈ lw_tbl := tb_5 (List.mem_of_getElem? (i := 115) rfl)
set_option maxRecDepth 4000 in
theorem mw_5_116 : Cond.methodLink "StarWalkModel" 179 yX8_sizeOf ∈ lw_tbl := tb_5 (List.mem_of_getElem? (i := 116) rfl)
set_option maxRecDepth 4000 in
theorem mw_5_117 : Cond.static yX8_sizeOf ∈ lw_tbl := tb_5 (List.mem_of_getElem? (i := 117) rfl)
set_option maxRecDepth 4000 in
theorem mw_5_118 : Cond.code yX8_sizeOf prog_10_method_38_code 1 (some .int) ∈ lw_tbl := tb_5 (List.mem_of_getElem? (i := 118) rfl)
set_option maxRecDepth 4000 in
theorem mw_5_119 : Cond.methodLink "StarWalkModel" 194 yX8_flag ∈ lw_tbl := tb_5 (List.mem_of_getElem? (i := 119) rfl)
set_option maxRecDepth 4000 in
theorem mw_5_120 : Cond.static yX8_flag ∈ lw_tbl := tb_5 (List.mem_of_getElem? (i := 120) rfl)
set_option maxRecDepth 4000 in
theorem mw_5_121 : Cond.code yX8_flag prog_10_method_4_code 1 (some .int) ∈ lw_tbl := tb_5 (List.mem_of_getElem? (i := 121) rfl)
set_option maxRecDepth 4000 in
theorem mw_5_122 : Cond.methodLink "StarWalkLaw" 39 yX8_star ∈ lw_tbl := tb_5 (List.mem_of_getElem? (i := 122) rfl)
set_option maxRecDepth 4000 in
theorem mw_5_123 : Cond.instanceMethod yX8_star ∈ lw_tbl := tb_5 (List.mem_of_getElem? (i := 123) rfl)
set_option maxRecDepth 4000 in
theorem mw_5_124 : Cond.selects "StarWalkModel" yX8_star yX8_star ∈ lw_tbl := tb_5 (List.mem_of_getElem? (i := 124) rfl)
set_option maxRecDepth 4000 in
theorem mw_5_125 : Cond.code yX8_star prog_10_method_42_code 3 (some .int) ∈ lw_tbl := tb_5 (List.mem_of_getElem? (i := 125) rfl)
set_option maxRecDepth 4000 in
theorem mw_5_126 : Cond.methodLink "StarWalkModel" 150 yX8_isStar ∈ lw_tbl := tb_5 (List.mem_of_getElem? (i := 126) rfl)
set_option maxRecDepth 4000 in
theorem mw_5_127 : Cond.privateMethod yX8_isStar ∈ lw_tbl := tb_5 (List.mem_of_getElem? (i := 127) rfl)
set_option maxRecDepth 4000 in
theorem mw_5_128 : Cond.instanceMethod yX8_isStar ∈ lw_tbl := tb_5 (List.mem_of_getElem? (i := 128) rfl)
set_option maxRecDepth 4000 in
theorem mw_5_129 : Cond.code yX8_isStar prog_10_method_25_code 2 (some .boolean) ∈ lw_tbl := tb_5 (List.mem_of_getElem? (i := 129) rfl)
set_option maxRecDepth 4000 in
theorem mw_5_130 : Cond.constantLong "StarWalkModel" 198 (3 : Int64) ∈ lw_tbl := tb_5 (List.mem_of_getElem? (i := 130) rfl)
set_option maxRecDepth 4000 in
theorem mw_5_131 : Cond.methodLink "StarWalkLaw" 43 yX8_walker ∈ lw_tbl := tb_5 (List.mem_of_getElem? (i := 131) rfl)
set_option maxRecDepth 4000 in
theorem mw_5_132 : Cond.instanceMethod yX8_walker ∈ lw_tbl := tb_5 (List.mem_of_getElem? (i := 132) rfl)
set_option maxRecDepth 4000 in
theorem mw_5_133 : Cond.selects "StarWalkModel" yX8_walker yX8_walker ∈ lw_tbl := tb_5 (List.mem_of_getElem? (i := 133) rfl)
set_option maxRecDepth 4000 in
theorem mw_5_134 : Cond.code yX8_walker prog_10_method_43_code 2 (some .int) ∈ lw_tbl := tb_5 (List.mem_of_getElem? (i := 134) rfl)
set_option maxRecDepth 4000 in
theorem mw_5_135 : Cond.methodLink "StarWalkModel" 200 yX8_isWalker ∈ lw_tbl := tb_5 (List.mem_of_getElem? (i := 135) rfl)
set_option maxRecDepth 4000 in
theorem mw_5_136 : Cond.privateMethod yX8_isWalker ∈ lw_tbl := tb_5 (List.mem_of_getElem? (i := 136) rfl)
set_option maxRecDepth 4000 in
theorem mw_5_137 : Cond.instanceMethod yX8_isWalker ∈ lw_tbl := tb_5 (List.mem_of_getElem? (i := 137) rfl)
set_option maxRecDepth 4000 in
theorem mw_5_138 : Cond.code yX8_isWalker prog_10_method_26_code 2 (some .boolean) ∈ lw_tbl := tb_5 (List.mem_of_getElem? (i := 138) rfl)
set_option maxRecDepth 4000 in
theorem mw_5_139 : Cond.methodLink "StarWalkLaw" 47 yX8_plan ∈ lw_tbl := tb_5 (List.mem_of_getElem? (i := 139) rfl)
set_option maxRecDepth 4000 in
theorem mw_5_140 : Cond.instanceMethod yX8_plan ∈ lw_tbl := tb_5 (List.mem_of_getElem? (i := 140) rfl)
set_option maxRecDepth 4000 in
theorem mw_5_141 : Cond.selects "StarWalkModel" yX8_plan yX8_plan ∈ lw_tbl := tb_5 (List.mem_of_getElem? (i := 141) rfl)
set_option maxRecDepth 4000 in
theorem mw_5_142 : Cond.code yX8_plan prog_10_method_44_code 2 (some .int) ∈ lw_tbl := tb_5 (List.mem_of_getElem? (i := 142) rfl)
set_option maxRecDepth 4000 in
theorem mw_5_143 : Cond.methodLink "StarWalkLaw" 51 yX8_set ∈ lw_tbl := tb_5 (List.mem_of_getElem? (i := 143) rfl)
set_option maxRecDepth 4000 in
theorem mw_5_144 : Cond.instanceMethod yX8_set ∈ lw_tbl := tb_5 (List.mem_of_getElem? (i := 144) rfl)
set_option maxRecDepth 4000 in
theorem mw_5_145 : Cond.selects "StarWalkModel" yX8_set yX8_set ∈ lw_tbl := tb_5 (List.mem_of_getElem? (i := 145) rfl)
set_option maxRecDepth 4000 in
theorem mw_5_146 : Cond.code yX8_set prog_10_method_47_code 3 (some .int) ∈ lw_tbl := tb_5 (List.mem_of_getElem? (i := 146) rfl)
set_option maxRecDepth 4000 in
theorem mw_5_147 : Cond.methodLink "StarWalkModel" 209 yX8_canBe ∈ lw_tbl := tb_5 (List.mem_of_getElem? (i := 147) rfl)
set_option maxRecDepth 4000 in
theorem mw_5_148 : Cond.privateMethod yX8_canBe ∈ lw_tbl := tb_5 (List.mem_of_getElem? (i := 148) rfl)
set_option maxRecDepth 4000 in
theorem mw_5_149 : Cond.instanceMethod yX8_canBe ∈ lw_tbl := tb_5 (List.mem_of_getElem? (i := 149) rfl)
set_option maxRecDepth 4000 in
theorem mw_5_150 : Cond.code yX8_canBe prog_10_method_46_code 3 (some .boolean) ∈ lw_tbl := tb_5 (List.mem_of_getElem? (i := 150) rfl)
set_option maxRecDepth 4000 in
theorem mw_5_151 : Cond.constantLong "StarWalkModel" 203 (40 : Int64) ∈ lw_tbl := tb_5 (List.mem_of_getElem? (i := 151) rfl)
set_option maxRecDepth 4000 in
theorem mw_5_152 : Cond.constantLong "StarWalkModel" 158 (9 : Int64) ∈ lw_tbl := tb_5 (List.mem_of_getElem? (i := 152) rfl)
set_option maxRecDepth 4000 in
theorem mw_5_153 : Cond.constantLong "StarWalkModel" 205 (10 : Int64) ∈ lw_tbl := tb_5 (List.mem_of_getElem? (i := 153) rfl)
set_option maxRecDepth 4000 in
theorem mw_5_154 : Cond.constantLong "StarWalkModel" 207 (99 : Int64) ∈ lw_tbl := tb_5 (List.mem_of_getElem? (i := 154) rfl)
set_option maxRecDepth 4000 in
theorem mw_5_155 : Cond.methodLink "StarWalkModel" 212 yX8_becomes ∈ lw_tbl := tb_5 (List.mem_of_getElem? (i := 155) rfl)
set_option maxRecDepth 4000 in
theorem mw_5_156 : Cond.privateMethod yX8_becomes ∈ lw_tbl := tb_5 (List.mem_of_getElem? (i := 156) rfl)
set_option maxRecDepth 4000 in
theorem mw_5_157 : Cond.instanceMethod yX8_becomes ∈ lw_tbl := tb_5 (List.mem_of_getElem? (i := 157) rfl)
set_option maxRecDepth 4000 in
theorem mw_5_158 : Cond.code yX8_becomes prog_10_method_45_code 4 (some .int) ∈ lw_tbl := tb_5 (List.mem_of_getElem? (i := 158) rfl)
set_option maxRecDepth 4000 in
theorem mw_5_159 : Cond.methodLink "StarWalkLaw" 56 yX8_cloud ∈ lw_tbl := tb_5 (List.mem_of_getElem? (i := 159) rfl)
set_option maxRecDepth 4000 in
theorem mw_5_160 : Cond.instanceMethod yX8_cloud ∈ lw_tbl := tb_5 (List.mem_of_getElem? (i := 160) rfl)
set_option maxRecDepth 4000 in
theorem mw_5_161 : Cond.selects "StarWalkModel" yX8_cloud yX8_cloud ∈ lw_tbl := tb_5 (List.mem_of_getElem? (i := 161) rfl)
set_option maxRecDepth 4000 in
theorem mw_5_162 : Cond.code yX8_cloud prog_10_method_48_code 4 (some .int) ∈ lw_tbl := tb_5 (List.mem_of_getElem? (i := 162) rfl)
set_option maxRecDepth 4000 in
theorem mw_5_163 : Cond.methodLink "StarWalkModel" 215 yX8_isHour ∈ lw_tbl := tb_5 (List.mem_of_getElem? (i := 163) rfl)
set_option maxRecDepth 4000 in
theorem mw_5_164 : Cond.static yX8_isHour ∈ lw_tbl := tb_5 (List.mem_of_getElem? (i := 164) rfl)
set_option maxRecDepth 4000 in
theorem mw_5_165 : Cond.code yX8_isHour prog_10_method_28_code 1 (some .boolean) ∈ lw_tbl := tb_5 (List.mem_of_getElem? (i := 165) rfl)
set_option maxRecDepth 4000 in
theorem mw_5_166 : Cond.methodLink "StarWalkLaw" 60 yX8_know ∈ lw_tbl := tb_5 (List.mem_of_getElem? (i := 166) rfl)
set_option maxRecDepth 4000 in
theorem mw_5_167 : Cond.instanceMethod yX8_know ∈ lw_tbl := tb_5 (List.mem_of_getElem? (i := 167) rfl)
set_option maxRecDepth 4000 in
theorem mw_5_168 : Cond.selects "StarWalkModel" yX8_know yX8_know ∈ lw_tbl := tb_5 (List.mem_of_getElem? (i := 168) rfl)
set_option maxRecDepth 4000 in
theorem mw_5_169 : Cond.code yX8_know prog_10_method_49_code 3 (some .int) ∈ lw_tbl := tb_5 (List.mem_of_getElem? (i := 169) rfl)
set_option maxRecDepth 4000 in
theorem mw_5_170 : Cond.methodLink "StarWalkLaw" 64 yX8_turn ∈ lw_tbl := tb_5 (List.mem_of_getElem? (i := 170) rfl)
set_option maxRecDepth 4000 in
theorem mw_5_171 : Cond.instanceMethod yX8_turn ∈ lw_tbl := tb_5 (List.mem_of_getElem? (i := 171) rfl)
set_option maxRecDepth 4000 in
theorem mw_5_172 : Cond.selects "StarWalkModel" yX8_turn yX8_turn ∈ lw_tbl := tb_5 (List.mem_of_getElem? (i := 172) rfl)
set_option maxRecDepth 4000 in
theorem mw_5_173 : Cond.code yX8_turn prog_10_method_50_code 3 (some .int) ∈ lw_tbl := tb_5 (List.mem_of_getElem? (i := 173) rfl)
set_option maxRecDepth 4000 in
theorem mw_5_174 : Cond.constantLong "StarWalkModel" 156 (6 : Int64) ∈ lw_tbl := tb_5 (List.mem_of_getElem? (i := 174) rfl)
set_option maxRecDepth 4000 in
theorem mw_5_175 : Cond.methodLink "StarWalkLaw" 68 yX8_teach ∈ lw_tbl := tb_5 (List.mem_of_getElem? (i := 175) rfl)
set_option maxRecDepth 4000 in
theorem mw_5_176 : Cond.instanceMethod yX8_teach ∈ lw_tbl := tb_5 (List.mem_of_getElem? (i := 176) rfl)
set_option maxRecDepth 4000 in
theorem mw_5_177 : Cond.selects "StarWalkModel" yX8_teach yX8_teach ∈ lw_tbl := tb_5 (List.mem_of_getElem? (i := 177) rfl)
set_option maxRecDepth 4000 in
theorem mw_5_178 : Cond.code yX8_teach prog_10_method_51_code 3 (some .int) ∈ lw_tbl := tb_5 (List.mem_of_getElem? (i := 178) rfl)
set_option maxRecDepth 4000 in
theorem mw_5_179 : Cond.methodLink "StarWalkLaw" 72 yX8_plans ∈ lw_tbl := tb_5 (List.mem_of_getElem? (i := 179) rfl)
set_option maxRecDepth 4000 in
theorem mw_5_180 : Cond.instanceMethod yX8_plans ∈ lw_tbl := tb_5 (List.mem_of_getElem? (i := 180) rfl)
set_option maxRecDepth 4000 in
theorem mw_5_181 : Cond.selects "StarWalkModel" yX8_plans yX8_plans ∈ lw_tbl := tb_5 (List.mem_of_getElem? (i := 181) rfl)
set_option maxRecDepth 4000 in
theorem mw_5_182 : Cond.code yX8_plans prog_10_method_52_code 2 (some .int) ∈ lw_tbl := tb_5 (List.mem_of_getElem? (i := 182) rfl)
set_option maxRecDepth 4000 in
theorem mw_5_183 : Cond.methodLink "StarWalkModel" 218 yX8_isAim ∈ lw_tbl := tb_5 (List.mem_of_getElem? (i := 183) rfl)
set_option maxRecDepth 4000 in
theorem mw_5_184 : Cond.privateMethod yX8_isAim ∈ lw_tbl := tb_5 (List.mem_of_getElem? (i := 184) rfl)
set_option maxRecDepth 4000 in
theorem mw_5_185 : Cond.instanceMethod yX8_isAim ∈ lw_tbl := tb_5 (List.mem_of_getElem? (i := 185) rfl)
set_option maxRecDepth 4000 in
theorem mw_5_186 : Cond.code yX8_isAim prog_10_method_27_code 2 (some .boolean) ∈ lw_tbl := tb_5 (List.mem_of_getElem? (i := 186) rfl)
set_option maxRecDepth 4000 in
theorem mw_5_187 : Cond.constantLong "StarWalkModel" 154 (5 : Int64) ∈ lw_tbl := tb_5 (List.mem_of_getElem? (i := 187) rfl)
set_option maxRecDepth 4000 in
theorem mw_5_188 : Cond.methodLink "StarWalkLaw" 76 yX8_cut ∈ lw_tbl := tb_5 (List.mem_of_getElem? (i := 188) rfl)
set_option maxRecDepth 4000 in
theorem mw_5_189 : Cond.instanceMethod yX8_cut ∈ lw_tbl := tb_5 (List.mem_of_getElem? (i := 189) rfl)
set_option maxRecDepth 4000 in
theorem mw_5_190 : Cond.selects "StarWalkModel" yX8_cut yX8_cut ∈ lw_tbl := tb_5 (List.mem_of_getElem? (i := 190) rfl)
set_option maxRecDepth 4000 in
theorem mw_5_191 : Cond.code yX8_cut prog_10_method_53_code 2 (some .int) ∈ lw_tbl := tb_5 (List.mem_of_getElem? (i := 191) rfl)
set_option maxRecDepth 4000 in
theorem mw_5_192 : Cond.methodLink "StarWalkLaw" 80 yX8_pull ∈ lw_tbl := tb_5 (List.mem_of_getElem? (i := 192) rfl)
set_option maxRecDepth 4000 in
theorem mw_5_193 : Cond.instanceMethod yX8_pull ∈ lw_tbl := tb_5 (List.mem_of_getElem? (i := 193) rfl)
set_option maxRecDepth 4000 in
theorem mw_5_194 : Cond.selects "StarWalkModel" yX8_pull yX8_pull ∈ lw_tbl := tb_5 (List.mem_of_getElem? (i := 194) rfl)
set_option maxRecDepth 4000 in
theorem mw_5_195 : Cond.code yX8_pull prog_10_method_54_code 2 (some .int) ∈ lw_tbl := tb_5 (List.mem_of_getElem? (i := 195) rfl)
set_option maxRecDepth 4000 in
theorem mw_5_196 : Cond.methodLink "StarWalkModel" 163 yX8_pullNow ∈ lw_tbl := tb_5 (List.mem_of_getElem? (i := 196) rfl)
set_option maxRecDepth 4000 in
theorem mw_5_197 : Cond.privateMethod yX8_pullNow ∈ lw_tbl := tb_5 (List.mem_of_getElem? (i := 197) rfl)
set_option maxRecDepth 4000 in
theorem mw_5_198 : Cond.instanceMethod yX8_pullNow ∈ lw_tbl := tb_5 (List.mem_of_getElem? (i := 198) rfl)
set_option maxRecDepth 4000 in
theorem mw_5_199 : Cond.code yX8_pullNow prog_10_method_33_code 3 (some .int) ∈ lw_tbl := tb_5 (List.mem_of_getElem? (i := 199) rfl)
set_option maxRecDepth 4000 in
theorem mw_5_200 : Cond.methodLink "StarWalkModel" 160 yX8_pullOf ∈ lw_tbl := tb_5 (List.mem_of_getElem? (i := 200) rfl)
set_option maxRecDepth 4000 in
theorem mw_5_201 : Cond.static yX8_pullOf ∈ lw_tbl := tb_5 (List.mem_of_getElem? (i := 201) rfl)
set_option maxRecDepth 4000 in
theorem mw_5_202 : Cond.code yX8_pullOf prog_10_method_32_code 4 (some .int) ∈ lw_tbl := tb_5 (List.mem_of_getElem? (i := 202) rfl)
set_option maxRecDepth 4000 in
theorem mw_5_203 : Cond.methodLink "StarWalkLaw" 84 yX8_up ∈ lw_tbl := tb_5 (List.mem_of_getElem? (i := 203) rfl)
set_option maxRecDepth 4000 in
theorem mw_5_204 : Cond.instanceMethod yX8_up ∈ lw_tbl := tb_5 (List.mem_of_getElem? (i := 204) rfl)
set_option maxRecDepth 4000 in
theorem mw_5_205 : Cond.selects "StarWalkModel" yX8_up yX8_up ∈ lw_tbl := tb_5 (List.mem_of_getElem? (i := 205) rfl)
set_option maxRecDepth 4000 in
theorem mw_5_206 : Cond.code yX8_up prog_10_method_55_code 4 (some .int) ∈ lw_tbl := tb_5 (List.mem_of_getElem? (i := 206) rfl)
set_option maxRecDepth 4000 in
theorem mw_5_207 : Cond.methodLink "StarWalkModel" 166 yX8_isUp ∈ lw_tbl := tb_5 (List.mem_of_getElem? (i := 207) rfl)
set_option maxRecDepth 4000 in
theorem mw_5_208 : Cond.privateMethod yX8_isUp ∈ lw_tbl := tb_5 (List.mem_of_getElem? (i := 208) rfl)
set_option maxRecDepth 4000 in
theorem mw_5_209 : Cond.instanceMethod yX8_isUp ∈ lw_tbl := tb_5 (List.mem_of_getElem? (i := 209) rfl)
set_option maxRecDepth 4000 in
theorem mw_5_210 : Cond.code yX8_isUp prog_10_method_34_code 3 (some .boolean) ∈ lw_tbl := tb_5 (List.mem_of_getElem? (i := 210) rfl)
set_option maxRecDepth 4000 in
theorem mw_5_211 : Cond.methodLink "StarWalkLaw" 88 yX8_go ∈ lw_tbl := tb_5 (List.mem_of_getElem? (i := 211) rfl)
set_option maxRecDepth 4000 in
theorem mw_5_212 : Cond.instanceMethod yX8_go ∈ lw_tbl := tb_5 (List.mem_of_getElem? (i := 212) rfl)
set_option maxRecDepth 4000 in
theorem mw_5_213 : Cond.selects "StarWalkModel" yX8_go yX8_go ∈ lw_tbl := tb_5 (List.mem_of_getElem? (i := 213) rfl)
set_option maxRecDepth 4000 in
theorem mw_5_214 : Cond.code yX8_go prog_10_method_56_code 2 (some .int) ∈ lw_tbl := tb_5 (List.mem_of_getElem? (i := 214) rfl)
set_option maxRecDepth 4000 in
theorem mw_5_215 : Cond.methodLink "StarWalkModel" 185 yX8_steps ∈ lw_tbl := tb_5 (List.mem_of_getElem? (i := 215) rfl)
set_option maxRecDepth 4000 in
theorem mw_5_216 : Cond.privateMethod yX8_steps ∈ lw_tbl := tb_5 (List.mem_of_getElem? (i := 216) rfl)
set_option maxRecDepth 4000 in
theorem mw_5_217 : Cond.instanceMethod yX8_steps ∈ lw_tbl := tb_5 (List.mem_of_getElem? (i := 217) rfl)
set_option maxRecDepth 4000 in
theorem mw_5_218 : Cond.code yX8_steps prog_10_method_37_code 3 (some .boolean) ∈ lw_tbl := tb_5 (List.mem_of_getElem? (i := 218) rfl)
set_option maxRecDepth 4000 in
theorem mw_5_219 : Cond.methodLink "StarWalkModel" 172 yX8_canWalk ∈ lw_tbl := tb_5 (List.mem_of_getElem? (i := 219) rfl)
set_option maxRecDepth 4000 in
theorem mw_5_220 : Cond.privateMethod yX8_canWalk ∈ lw_tbl := tb_5 (List.mem_of_getElem? (i := 220) rfl)
set_option maxRecDepth 4000 in
theorem mw_5_221 : Cond.instanceMethod yX8_canWalk ∈ lw_tbl := tb_5 (List.mem_of_getElem? (i := 221) rfl)
set_option maxRecDepth 4000 in
theorem mw_5_222 : Cond.code yX8_canWalk prog_10_method_36_code 1 (some .boolean) ∈ lw_tbl := tb_5 (List.mem_of_getElem? (i := 222) rfl)
set_option maxRecDepth 4000 in
theorem mw_5_223 : Cond.methodLink "StarWalkModel" 176 yX8_stepsOn ∈ lw_tbl := tb_5 (List.mem_of_getElem? (i := 223) rfl)
set_option maxRecDepth 4000 in
theorem mw_5_224 : Cond.privateMethod yX8_stepsOn ∈ lw_tbl := tb_5 (List.mem_of_getElem? (i := 224) rfl)
set_option maxRecDepth 4000 in
theorem mw_5_225 : Cond.instanceMethod yX8_stepsOn ∈ lw_tbl := tb_5 (List.mem_of_getElem? (i := 225) rfl)
set_option maxRecDepth 4000 in
theorem mw_5_226 : Cond.code yX8_stepsOn prog_10_method_35_code 4 (some .int) ∈ lw_tbl := tb_5 (List.mem_of_getElem? (i := 226) rfl)
set_option maxRecDepth 4000 in
theorem mw_5_227 : Cond.methodLink "StarWalkModel" 221 yX8_settles ∈ lw_tbl := tb_5 (List.mem_of_getElem? (i := 227) rfl)
set_option maxRecDepth 4000 in
theorem mw_5_228 : Cond.privateMethod yX8_settles ∈ lw_tbl := tb_5 (List.mem_of_getElem? (i := 228) rfl)
set_option maxRecDepth 4000 in
theorem mw_5_229 : Cond.instanceMethod yX8_settles ∈ lw_tbl := tb_5 (List.mem_of_getElem? (i := 229) rfl)
set_option maxRecDepth 4000 in
theorem mw_5_230 : Cond.code yX8_settles prog_10_method_31_code 2 none ∈ lw_tbl := tb_5 (List.mem_of_getElem? (i := 230) rfl)
set_option maxRecDepth 4000 in
theorem mw_5_231 : Cond.methodLink "StarWalkLaw" 92 yX8_runs ∈ lw_tbl := tb_5 (List.mem_of_getElem? (i := 231) rfl)
set_option maxRecDepth 4000 in
theorem mw_5_232 : Cond.instanceMethod yX8_runs ∈ lw_tbl := tb_5 (List.mem_of_getElem? (i := 232) rfl)
set_option maxRecDepth 4000 in
theorem mw_5_233 : Cond.selects "StarWalkModel" yX8_runs yX8_runs ∈ lw_tbl := tb_5 (List.mem_of_getElem? (i := 233) rfl)
set_option maxRecDepth 4000 in
theorem mw_5_234 : Cond.code yX8_runs prog_10_method_57_code 2 (some .int) ∈ lw_tbl := tb_5 (List.mem_of_getElem? (i := 234) rfl)
set_option maxRecDepth 4000 in
theorem mw_5_235 : Cond.methodLink "StarWalkModel" 224 yX8_plansGo ∈ lw_tbl := tb_5 (List.mem_of_getElem? (i := 235) rfl)
set_option maxRecDepth 4000 in
theorem mw_5_236 : Cond.privateMethod yX8_plansGo ∈ lw_tbl := tb_5 (List.mem_of_getElem? (i := 236) rfl)
set_option maxRecDepth 4000 in
theorem mw_5_237 : Cond.instanceMethod yX8_plansGo ∈ lw_tbl := tb_5 (List.mem_of_getElem? (i := 237) rfl)
set_option maxRecDepth 4000 in
theorem mw_5_238 : Cond.code yX8_plansGo prog_10_method_40_code 3 none ∈ lw_tbl := tb_5 (List.mem_of_getElem? (i := 238) rfl)
set_option maxRecDepth 4000 in
theorem mw_5_239 : Cond.methodLink "StarWalkLaw" 96 yX8_next ∈ lw_tbl := tb_5 (List.mem_of_getElem? (i := 239) rfl)
set_option maxRecDepth 4000 in
theorem mw_6_0 : Cond.instanceMethod yX8_next ∈ lw_tbl := tb_6 (List.mem_of_getElem? (i := 0) rfl)
set_option maxRecDepth 4000 in
theorem mw_6_1 : Cond.selects "StarWalkModel" yX8_next yX8_next ∈ lw_tbl := tb_6 (List.mem_of_getElem? (i := 1) rfl)
set_option maxRecDepth 4000 in
theorem mw_6_2 : Cond.code yX8_next prog_10_method_59_code 3 (some .int) ∈ lw_tbl := tb_6 (List.mem_of_getElem? (i := 2) rfl)
set_option maxRecDepth 4000 in
theorem mw_6_3 : Cond.constant "StarWalkModel" 233 (1000000 : Int32) ∈ lw_tbl := tb_6 (List.mem_of_getElem? (i := 3) rfl)
set_option maxRecDepth 4000 in
theorem mw_6_4 : Cond.methodLink "StarWalkModel" 234 yX8_isBetter ∈ lw_tbl := tb_6 (List.mem_of_getElem? (i := 4) rfl)
set_option maxRecDepth 4000 in
theorem mw_6_5 : Cond.privateMethod yX8_isBetter ∈ lw_tbl := tb_6 (List.mem_of_getElem? (i := 5) rfl)
set_option maxRecDepth 4000 in
theorem mw_6_6 : Cond.instanceMethod yX8_isBetter ∈ lw_tbl := tb_6 (List.mem_of_getElem? (i := 6) rfl)
set_option maxRecDepth 4000 in
theorem mw_6_7 : Cond.code yX8_isBetter prog_10_method_58_code 3 (some .boolean) ∈ lw_tbl := tb_6 (List.mem_of_getElem? (i := 7) rfl)
set_option maxRecDepth 4000 in
theorem mw_6_8 : Cond.methodLink "StarWalkLaw" 100 yX8_best ∈ lw_tbl := tb_6 (List.mem_of_getElem? (i := 8) rfl)
set_option maxRecDepth 4000 in
theorem mw_6_9 : Cond.instanceMethod yX8_best ∈ lw_tbl := tb_6 (List.mem_of_getElem? (i := 9) rfl)
set_option maxRecDepth 4000 in
theorem mw_6_10 : Cond.selects "StarWalkModel" yX8_best yX8_best ∈ lw_tbl := tb_6 (List.mem_of_getElem? (i := 10) rfl)
set_option maxRecDepth 4000 in
theorem mw_6_11 : Cond.code yX8_best prog_10_method_63_code 6 (some .int) ∈ lw_tbl := tb_6 (List.mem_of_getElem? (i := 11) rfl)
set_option maxRecDepth 4000 in
theorem mw_6_12 : Cond.constantLong "StarWalkModel" 244 (4 : Int64) ∈ lw_tbl := tb_6 (List.mem_of_getElem? (i := 12) rfl)
set_option maxRecDepth 4000 in
theorem mw_6_13 : Cond.methodLink "StarWalkModel" 246 yX8_isPart ∈ lw_tbl := tb_6 (List.mem_of_getElem? (i := 13) rfl)
set_option maxRecDepth 4000 in
theorem mw_6_14 : Cond.static yX8_isPart ∈ lw_tbl := tb_6 (List.mem_of_getElem? (i := 14) rfl)
set_option maxRecDepth 4000 in
theorem mw_6_15 : Cond.code yX8_isPart prog_10_method_29_code 1 (some .boolean) ∈ lw_tbl := tb_6 (List.mem_of_getElem? (i := 15) rfl)
set_option maxRecDepth 4000 in
theorem mw_6_16 : Cond.methodLink "StarWalkModel" 237 yX8_power ∈ lw_tbl := tb_6 (List.mem_of_getElem? (i := 16) rfl)
set_option maxRecDepth 4000 in
theorem mw_6_17 : Cond.static yX8_power ∈ lw_tbl := tb_6 (List.mem_of_getElem? (i := 17) rfl)
set_option maxRecDepth 4000 in
theorem mw_6_18 : Cond.code yX8_power prog_10_method_60_code 4 (some .int) ∈ lw_tbl := tb_6 (List.mem_of_getElem? (i := 18) rfl)
set_option maxRecDepth 4000 in
theorem mw_6_19 : Cond.methodLink "StarWalkModel" 249 yX8_isRow ∈ lw_tbl := tb_6 (List.mem_of_getElem? (i := 19) rfl)
set_option maxRecDepth 4000 in
theorem mw_6_20 : Cond.privateMethod yX8_isRow ∈ lw_tbl := tb_6 (List.mem_of_getElem? (i := 20) rfl)
set_option maxRecDepth 4000 in
theorem mw_6_21 : Cond.instanceMethod yX8_isRow ∈ lw_tbl := tb_6 (List.mem_of_getElem? (i := 21) rfl)
set_option maxRecDepth 4000 in
theorem mw_6_22 : Cond.code yX8_isRow prog_10_method_62_code 5 (some .boolean) ∈ lw_tbl := tb_6 (List.mem_of_getElem? (i := 22) rfl)
set_option maxRecDepth 4000 in
theorem mw_6_23 : Cond.methodLink "StarWalkModel" 240 yX8_aimIn ∈ lw_tbl := tb_6 (List.mem_of_getElem? (i := 23) rfl)
set_option maxRecDepth 4000 in
theorem mw_6_24 : Cond.static yX8_aimIn ∈ lw_tbl := tb_6 (List.mem_of_getElem? (i := 24) rfl)
set_option maxRecDepth 4000 in
theorem mw_6_25 : Cond.code yX8_aimIn prog_10_method_61_code 3 (some .int) ∈ lw_tbl := tb_6 (List.mem_of_getElem? (i := 25) rfl)
set_option maxRecDepth 4000 in
theorem mw_6_26 : Cond.methodLink "StarWalkLaw" 104 yX8_front ∈ lw_tbl := tb_6 (List.mem_of_getElem? (i := 26) rfl)
set_option maxRecDepth 4000 in
theorem mw_6_27 : Cond.instanceMethod yX8_front ∈ lw_tbl := tb_6 (List.mem_of_getElem? (i := 27) rfl)
set_option maxRecDepth 4000 in
theorem mw_6_28 : Cond.selects "StarWalkModel" yX8_front yX8_front ∈ lw_tbl := tb_6 (List.mem_of_getElem? (i := 28) rfl)
set_option maxRecDepth 4000 in
theorem mw_6_29 : Cond.code yX8_front prog_10_method_64_code 6 (some .int) ∈ lw_tbl := tb_6 (List.mem_of_getElem? (i := 29) rfl)
set_option maxRecDepth 4000 in
theorem mw_6_30 : Cond.methodLink "StarWalkLaw" 108 yX8_lessons ∈ lw_tbl := tb_6 (List.mem_of_getElem? (i := 30) rfl)
set_option maxRecDepth 4000 in
theorem mw_6_31 : Cond.instanceMethod yX8_lessons ∈ lw_tbl := tb_6 (List.mem_of_getElem? (i := 31) rfl)
set_option maxRecDepth 4000 in
theorem mw_6_32 : Cond.selects "StarWalkModel" yX8_lessons yX8_lessons ∈ lw_tbl := tb_6 (List.mem_of_getElem? (i := 32) rfl)
set_option maxRecDepth 4000 in
theorem mw_6_33 : Cond.code yX8_lessons prog_10_method_68_code 6 (some .int) ∈ lw_tbl := tb_6 (List.mem_of_getElem? (i := 33) rfl)
set_option maxRecDepth 4000 in
theorem mw_6_34 : Cond.methodLink "StarWalkModel" 252 yX8_known ∈ lw_tbl := tb_6 (List.mem_of_getElem? (i := 34) rfl)
set_option maxRecDepth 4000 in
theorem mw_6_35 : Cond.privateMethod yX8_known ∈ lw_tbl := tb_6 (List.mem_of_getElem? (i := 35) rfl)
set_option maxRecDepth 4000 in
theorem mw_6_36 : Cond.instanceMethod yX8_known ∈ lw_tbl := tb_6 (List.mem_of_getElem? (i := 36) rfl)
set_option maxRecDepth 4000 in
theorem mw_6_37 : Cond.code yX8_known prog_10_method_66_code 3 (some .int) ∈ lw_tbl := tb_6 (List.mem_of_getElem? (i := 37) rfl)
set_option maxRecDepth 4000 in
theorem mw_6_38 : Cond.methodLink "StarWalkModel" 255 yX8_bitsOf ∈ lw_tbl := tb_6 (List.mem_of_getElem? (i := 38) rfl)
set_option maxRecDepth 4000 in
theorem mw_6_39 : Cond.static yX8_bitsOf ∈ lw_tbl := tb_6 (List.mem_of_getElem? (i := 39) rfl)
set_option maxRecDepth 4000 in
theorem mw_6_40 : Cond.code yX8_bitsOf prog_10_method_65_code 3 (some .int) ∈ lw_tbl := tb_6 (List.mem_of_getElem? (i := 40) rfl)
set_option maxRecDepth 4000 in
theorem mw_6_41 : Cond.methodLink "StarWalkModel" 258 yX8_knowsJust ∈ lw_tbl := tb_6 (List.mem_of_getElem? (i := 41) rfl)
set_option maxRecDepth 4000 in
theorem mw_6_42 : Cond.privateMethod yX8_knowsJust ∈ lw_tbl := tb_6 (List.mem_of_getElem? (i := 42) rfl)
set_option maxRecDepth 4000 in
theorem mw_6_43 : Cond.instanceMethod yX8_knowsJust ∈ lw_tbl := tb_6 (List.mem_of_getElem? (i := 43) rfl)
set_option maxRecDepth 4000 in
theorem mw_6_44 : Cond.code yX8_knowsJust prog_10_method_67_code 3 none ∈ lw_tbl := tb_6 (List.mem_of_getElem? (i := 44) rfl)
set_option maxRecDepth 4000 in
theorem mw_6_45 : Cond.methodLink "StarWalkLaw" 112 yX8_thirst ∈ lw_tbl := tb_6 (List.mem_of_getElem? (i := 45) rfl)
set_option maxRecDepth 4000 in
theorem mw_6_46 : Cond.instanceMethod yX8_thirst ∈ lw_tbl := tb_6 (List.mem_of_getElem? (i := 46) rfl)
set_option maxRecDepth 4000 in
theorem mw_6_47 : Cond.selects "StarWalkModel" yX8_thirst yX8_thirst ∈ lw_tbl := tb_6 (List.mem_of_getElem? (i := 47) rfl)
set_option maxRecDepth 4000 in
theorem mw_6_48 : Cond.code yX8_thirst prog_10_method_69_code 2 (some .int) ∈ lw_tbl := tb_6 (List.mem_of_getElem? (i := 48) rfl)
set_option maxRecDepth 4000 in
theorem mw_6_49 : Cond.methodLink "StarWalkLaw" 116 yX8_weather ∈ lw_tbl := tb_6 (List.mem_of_getElem? (i := 49) rfl)
set_option maxRecDepth 4000 in
theorem mw_6_50 : Cond.instanceMethod yX8_weather ∈ lw_tbl := tb_6 (List.mem_of_getElem? (i := 50) rfl)
set_option maxRecDepth 4000 in
theorem mw_6_51 : Cond.selects "StarWalkModel" yX8_weather yX8_weather ∈ lw_tbl := tb_6 (List.mem_of_getElem? (i := 51) rfl)
set_option maxRecDepth 4000 in
theorem mw_6_52 : Cond.code yX8_weather prog_10_method_70_code 3 (some .int) ∈ lw_tbl := tb_6 (List.mem_of_getElem? (i := 52) rfl)
set_option maxRecDepth 4000 in
theorem mw_6_53 : Cond.methodLink "StarWalkLaw" 121 yX8_luck ∈ lw_tbl := tb_6 (List.mem_of_getElem? (i := 53) rfl)
set_option maxRecDepth 4000 in
theorem mw_6_54 : Cond.instanceMethod yX8_luck ∈ lw_tbl := tb_6 (List.mem_of_getElem? (i := 54) rfl)
set_option maxRecDepth 4000 in
theorem mw_6_55 : Cond.selects "StarWalkModel" yX8_luck yX8_luck ∈ lw_tbl := tb_6 (List.mem_of_getElem? (i := 55) rfl)
set_option maxRecDepth 4000 in
theorem mw_6_56 : Cond.code yX8_luck prog_10_method_74_code 3 (some .long) ∈ lw_tbl := tb_6 (List.mem_of_getElem? (i := 56) rfl)
set_option maxRecDepth 4000 in
theorem mw_6_57 : Cond.constantLong "StarWalkModel" 275 (-1 : Int64) ∈ lw_tbl := tb_6 (List.mem_of_getElem? (i := 57) rfl)
set_option maxRecDepth 4000 in
theorem mw_6_58 : Cond.methodLink "StarWalkModel" 277 yX8_findOdds ∈ lw_tbl := tb_6 (List.mem_of_getElem? (i := 58) rfl)
set_option maxRecDepth 4000 in
theorem mw_6_59 : Cond.privateMethod yX8_findOdds ∈ lw_tbl := tb_6 (List.mem_of_getElem? (i := 59) rfl)
set_option maxRecDepth 4000 in
theorem mw_6_60 : Cond.instanceMethod yX8_findOdds ∈ lw_tbl := tb_6 (List.mem_of_getElem? (i := 60) rfl)
set_option maxRecDepth 4000 in
theorem mw_6_61 : Cond.code yX8_findOdds prog_10_method_73_code 7 none ∈ lw_tbl := tb_6 (List.mem_of_getElem? (i := 61) rfl)
set_option maxRecDepth 4000 in
theorem mw_6_62 : Cond.methodLink "StarWalkModel" 280 yX8_told ∈ lw_tbl := tb_6 (List.mem_of_getElem? (i := 62) rfl)
set_option maxRecDepth 4000 in
theorem mw_6_63 : Cond.static yX8_told ∈ lw_tbl := tb_6 (List.mem_of_getElem? (i := 63) rfl)
set_option maxRecDepth 4000 in
theorem mw_6_64 : Cond.code yX8_told prog_10_method_72_code 7 (some .long) ∈ lw_tbl := tb_6 (List.mem_of_getElem? (i := 64) rfl)
set_option maxRecDepth 4000 in
theorem mw_6_65 : Cond.methodLink "StarWalkModel" 261 yX8_common ∈ lw_tbl := tb_6 (List.mem_of_getElem? (i := 65) rfl)
set_option maxRecDepth 4000 in
theorem mw_6_66 : Cond.static yX8_common ∈ lw_tbl := tb_6 (List.mem_of_getElem? (i := 66) rfl)
set_option maxRecDepth 4000 in
theorem mw_6_67 : Cond.code yX8_common prog_10_method_71_code 10 (some .long) ∈ lw_tbl := tb_6 (List.mem_of_getElem? (i := 67) rfl)
set_option maxRecDepth 4000 in
theorem mw_6_68 : Cond.methodLink "StarWalkLaw" 125 yX8_mean ∈ lw_tbl := tb_6 (List.mem_of_getElem? (i := 68) rfl)
set_option maxRecDepth 4000 in
theorem mw_6_69 : Cond.instanceMethod yX8_mean ∈ lw_tbl := tb_6 (List.mem_of_getElem? (i := 69) rfl)
set_option maxRecDepth 4000 in
theorem mw_6_70 : Cond.selects "StarWalkModel" yX8_mean yX8_mean ∈ lw_tbl := tb_6 (List.mem_of_getElem? (i := 70) rfl)
set_option maxRecDepth 4000 in
theorem mw_6_71 : Cond.code yX8_mean prog_10_method_75_code 3 (some .long) ∈ lw_tbl := tb_6 (List.mem_of_getElem? (i := 71) rfl)
set_option maxRecDepth 4000 in
theorem mw_6_72 : Cond.methodLink "StarWalkLaw" 129 yX8_see ∈ lw_tbl := tb_6 (List.mem_of_getElem? (i := 72) rfl)
set_option maxRecDepth 4000 in
theorem mw_6_73 : Cond.instanceMethod yX8_see ∈ lw_tbl := tb_6 (List.mem_of_getElem? (i := 73) rfl)
set_option maxRecDepth 4000 in
theorem mw_6_74 : Cond.selects "StarWalkModel" yX8_see yX8_see ∈ lw_tbl := tb_6 (List.mem_of_getElem? (i := 74) rfl)
set_option maxRecDepth 4000 in
theorem mw_6_75 : Cond.code yX8_see prog_10_method_76_code 3 (some .int) ∈ lw_tbl := tb_6 (List.mem_of_getElem? (i := 75) rfl)
set_option maxRecDepth 4000 in
theorem mw_6_76 : Cond.constantLong "StarWalkModel" 284 (8 : Int64) ∈ lw_tbl := tb_6 (List.mem_of_getElem? (i := 76) rfl)
set_option maxRecDepth 4000 in
theorem mw_6_77 : Cond.constantLong "StarWalkModel" 286 (-99 : Int64) ∈ lw_tbl := tb_6 (List.mem_of_getElem? (i := 77) rfl)
set_option maxRecDepth 4000 in
theorem mw_6_78 : Cond.methodLink "StarWalkLaw" 133 yX8_forget ∈ lw_tbl := tb_6 (List.mem_of_getElem? (i := 78) rfl)
set_option maxRecDepth 4000 in
theorem mw_6_79 : Cond.instanceMethod yX8_forget ∈ lw_tbl := tb_6 (List.mem_of_getElem? (i := 79) rfl)
set_option maxRecDepth 4000 in
theorem mw_6_80 : Cond.selects "StarWalkModel" yX8_forget yX8_forget ∈ lw_tbl := tb_6 (List.mem_of_getElem? (i := 80) rfl)
set_option maxRecDepth 4000 in
theorem mw_6_81 : Cond.code yX8_forget prog_10_method_77_code 2 (some .int) ∈ lw_tbl := tb_6 (List.mem_of_getElem? (i := 81) rfl)
set_option maxRecDepth 4000 in
theorem mw_6_82 : Cond.methodLink "StarWalkLaw" 137 yX8_aims ∈ lw_tbl := tb_6 (List.mem_of_getElem? (i := 82) rfl)
set_option maxRecDepth 4000 in
theorem mw_6_83 : Cond.instanceMethod yX8_aims ∈ lw_tbl := tb_6 (List.mem_of_getElem? (i := 83) rfl)
set_option maxRecDepth 4000 in
theorem mw_6_84 : Cond.selects "StarWalkModel" yX8_aims yX8_aims ∈ lw_tbl := tb_6 (List.mem_of_getElem? (i := 84) rfl)
set_option maxRecDepth 4000 in
theorem mw_6_85 : Cond.code yX8_aims prog_10_method_79_code 4 (some .int) ∈ lw_tbl := tb_6 (List.mem_of_getElem? (i := 85) rfl)
set_option maxRecDepth 4000 in
theorem mw_6_86 : Cond.methodLink "StarWalkModel" 288 yX8_isSo ∈ lw_tbl := tb_6 (List.mem_of_getElem? (i := 86) rfl)
set_option maxRecDepth 4000 in
theorem mw_6_87 : Cond.privateMethod yX8_isSo ∈ lw_tbl := tb_6 (List.mem_of_getElem? (i := 87) rfl)
set_option maxRecDepth 4000 in
theorem mw_6_88 : Cond.instanceMethod yX8_isSo ∈ lw_tbl := tb_6 (List.mem_of_getElem? (i := 88) rfl)
set_option maxRecDepth 4000 in
theorem mw_6_89 : Cond.code yX8_isSo prog_10_method_78_code 4 (some .boolean) ∈ lw_tbl := tb_6 (List.mem_of_getElem? (i := 89) rfl)
set_option maxRecDepth 4000 in
theorem mw_6_90 : Cond.methodLink "StarWalkLaw" 141 yX8_whose ∈ lw_tbl := tb_6 (List.mem_of_getElem? (i := 90) rfl)
set_option maxRecDepth 4000 in
theorem mw_6_91 : Cond.instanceMethod yX8_whose ∈ lw_tbl := tb_6 (List.mem_of_getElem? (i := 91) rfl)
set_option maxRecDepth 4000 in
theorem mw_6_92 : Cond.selects "StarWalkModel" yX8_whose yX8_whose ∈ lw_tbl := tb_6 (List.mem_of_getElem? (i := 92) rfl)
set_option maxRecDepth 4000 in
theorem mw_6_93 : Cond.code yX8_whose prog_10_method_80_code 3 (some .int) ∈ lw_tbl := tb_6 (List.mem_of_getElem? (i := 93) rfl)
set_option maxRecDepth 4000 in
theorem mw_6_94 : Cond.methodLink "StarWalkLaw" 145 yX8_fits ∈ lw_tbl := tb_6 (List.mem_of_getElem? (i := 94) rfl)
set_option maxRecDepth 4000 in
theorem mw_6_95 : Cond.instanceMethod yX8_fits ∈ lw_tbl := tb_6 (List.mem_of_getElem? (i := 95) rfl)
set_option maxRecDepth 4000 in
theorem mw_6_96 : Cond.selects "StarWalkModel" yX8_fits yX8_fits ∈ lw_tbl := tb_6 (List.mem_of_getElem? (i := 96) rfl)
set_option maxRecDepth 4000 in
theorem mw_6_97 : Cond.code yX8_fits prog_10_method_81_code 5 (some .int) ∈ lw_tbl := tb_6 (List.mem_of_getElem? (i := 97) rfl)
set_option maxRecDepth 4000 in
theorem mw_6_98 : Cond.methodLink "StarWalkLaw" 150 yX8_drift ∈ lw_tbl := tb_6 (List.mem_of_getElem? (i := 98) rfl)
set_option maxRecDepth 4000 in
theorem mw_6_99 : Cond.instanceMethod yX8_drift ∈ lw_tbl := tb_6 (List.mem_of_getElem? (i := 99) rfl)
set_option maxRecDepth 4000 in
theorem mw_6_100 : Cond.selects "StarWalkModel" yX8_drift yX8_drift ∈ lw_tbl := tb_6 (List.mem_of_getElem? (i := 100) rfl)
set_option maxRecDepth 4000 in
theorem mw_6_101 : Cond.code yX8_drift prog_10_method_82_code 7 (some .int) ∈ lw_tbl := tb_6 (List.mem_of_getElem? (i := 101) rfl)
set_option maxRecDepth 4000 in
theorem mw_6_102 : Cond.constantLong "StarWalkModel" 291 (30 : Int64) ∈ lw_tbl := tb_6 (List.mem_of_getElem? (i := 102) rfl)
set_option maxRecDepth 4000 in
theorem mw_6_103 : Cond.constant "StarWalkModel" 293 (1103515245 : Int32) ∈ lw_tbl := tb_6 (List.mem_of_getElem? (i := 103) rfl)
set_option maxRecDepth 4000 in
theorem mw_6_104 : Cond.methodLink "StarWalkLaw" 154 yX8_keep ∈ lw_tbl := tb_6 (List.mem_of_getElem? (i := 104) rfl)
set_option maxRecDepth 4000 in
theorem mw_6_105 : Cond.instanceMethod yX8_keep ∈ lw_tbl := tb_6 (List.mem_of_getElem? (i := 105) rfl)
set_option maxRecDepth 4000 in
theorem mw_6_106 : Cond.selects "StarWalkModel" yX8_keep yX8_keep ∈ lw_tbl := tb_6 (List.mem_of_getElem? (i := 106) rfl)
set_option maxRecDepth 4000 in
theorem mw_6_107 : Cond.code yX8_keep prog_10_method_84_code 3 (some .int) ∈ lw_tbl := tb_6 (List.mem_of_getElem? (i := 107) rfl)
set_option maxRecDepth 4000 in
theorem mw_6_108 : Cond.methodLink "StarWalkModel" 294 yX8_copies ∈ lw_tbl := tb_6 (List.mem_of_getElem? (i := 108) rfl)
set_option maxRecDepth 4000 in
theorem mw_6_109 : Cond.privateMethod yX8_copies ∈ lw_tbl := tb_6 (List.mem_of_getElem? (i := 109) rfl)
set_option maxRecDepth 4000 in
theorem mw_6_110 : Cond.instanceMethod yX8_copies ∈ lw_tbl := tb_6 (List.mem_of_getElem? (i := 110) rfl)
set_option maxRecDepth 4000 in
theorem mw_6_111 : Cond.code yX8_copies prog_10_method_83_code 4 none ∈ lw_tbl := tb_6 (List.mem_of_getElem? (i := 111) rfl)
set_option maxRecDepth 4000 in
theorem mw_6_112 : Cond.methodLink "StarWalkLaw" 158 yX8_back ∈ lw_tbl := tb_6 (List.mem_of_getElem? (i := 112) rfl)
set_option maxRecDepth 4000 in
theorem mw_6_113 : Cond.instanceMethod yX8_back ∈ lw_tbl := tb_6 (List.mem_of_getElem? (i := 113) rfl)
set_option maxRecDepth 4000 in
theorem mw_6_114 : Cond.selects "StarWalkModel" yX8_back yX8_back ∈ lw_tbl := tb_6 (List.mem_of_getElem? (i := 114) rfl)
set_option maxRecDepth 4000 in
theorem mw_6_115 : Cond.code yX8_back prog_10_method_85_code 2 (some .int) ∈ lw_tbl := tb_6 (List.mem_of_getElem? (i := 115) rfl)
set_option maxRecDepth 4000 in
theorem mw_6_116 : Cond.methodLink "StarWalkLaw" 162 yX8_sheet ∈ lw_tbl := tb_6 (List.mem_of_getElem? (i := 116) rfl)
set_option maxRecDepth 4000 in
theorem mw_6_117 : Cond.instanceMethod yX8_sheet ∈ lw_tbl := tb_6 (List.mem_of_getElem? (i := 117) rfl)
set_option maxRecDepth 4000 in
theorem mw_6_118 : Cond.selects "StarWalkModel" yX8_sheet yX8_sheet ∈ lw_tbl := tb_6 (List.mem_of_getElem? (i := 118) rfl)
set_option maxRecDepth 4000 in
theorem mw_6_119 : Cond.code yX8_sheet prog_10_method_87_code 5 (some .int) ∈ lw_tbl := tb_6 (List.mem_of_getElem? (i := 119) rfl)
set_option maxRecDepth 4000 in
theorem mw_6_120 : Cond.methodLink "StarWalkModel" 300 yX8_isSheet ∈ lw_tbl := tb_6 (List.mem_of_getElem? (i := 120) rfl)
set_option maxRecDepth 4000 in
theorem mw_6_121 : Cond.static yX8_isSheet ∈ lw_tbl := tb_6 (List.mem_of_getElem? (i := 121) rfl)
set_option maxRecDepth 4000 in
theorem mw_6_122 : Cond.code yX8_isSheet prog_10_method_86_code 2 (some .boolean) ∈ lw_tbl := tb_6 (List.mem_of_getElem? (i := 122) rfl)
set_option maxRecDepth 4000 in
theorem mw_6_123 : Cond.constantLong "StarWalkModel" 298 (2 : Int64) ∈ lw_tbl := tb_6 (List.mem_of_getElem? (i := 123) rfl)
set_option maxRecDepth 4000 in
theorem mw_6_124 : Cond.methodLink "StarWalkLaw" 166 yX8_lay ∈ lw_tbl := tb_6 (List.mem_of_getElem? (i := 124) rfl)
set_option maxRecDepth 4000 in
theorem mw_6_125 : Cond.instanceMethod yX8_lay ∈ lw_tbl := tb_6 (List.mem_of_getElem? (i := 125) rfl)
set_option maxRecDepth 4000 in
theorem mw_6_126 : Cond.selects "StarWalkModel" yX8_lay yX8_lay ∈ lw_tbl := tb_6 (List.mem_of_getElem? (i := 126) rfl)
set_option maxRecDepth 4000 in
theorem mw_6_127 : Cond.code yX8_lay prog_10_method_88_code 4 (some .int) ∈ lw_tbl := tb_6 (List.mem_of_getElem? (i := 127) rfl)
set_option maxRecDepth 4000 in
theorem mw_6_128 : Cond.methodLink "StarWalkLaw" 171 yX8_read ∈ lw_tbl := tb_6 (List.mem_of_getElem? (i := 128) rfl)
set_option maxRecDepth 4000 in
theorem mw_6_129 : Cond.instanceMethod yX8_read ∈ lw_tbl := tb_6 (List.mem_of_getElem? (i := 129) rfl)
set_option maxRecDepth 4000 in
theorem mw_6_130 : Cond.selects "StarWalkModel" yX8_read yX8_read ∈ lw_tbl := tb_6 (List.mem_of_getElem? (i := 130) rfl)
set_option maxRecDepth 4000 in
theorem mw_6_131 : Cond.code yX8_read prog_10_method_89_code 11 (some .int) ∈ lw_tbl := tb_6 (List.mem_of_getElem? (i := 131) rfl)
set_option maxRecDepth 4000 in
theorem mw_6_132 : Cond.methodLink "StarWalkModel" 303 yX8_go ∈ lw_tbl := tb_6 (List.mem_of_getElem? (i := 132) rfl)
set_option maxRecDepth 4000 in
theorem mw_6_133 : Cond.methodLink "StarWalkLaw" 175 yX8_torn ∈ lw_tbl := tb_6 (List.mem_of_getElem? (i := 133) rfl)
set_option maxRecDepth 4000 in
theorem mw_6_134 : Cond.instanceMethod yX8_torn ∈ lw_tbl := tb_6 (List.mem_of_getElem? (i := 134) rfl)
set_option maxRecDepth 4000 in
theorem mw_6_135 : Cond.selects "StarWalkModel" yX8_torn yX8_torn ∈ lw_tbl := tb_6 (List.mem_of_getElem? (i := 135) rfl)
set_option maxRecDepth 4000 in
theorem mw_6_136 : Cond.code yX8_torn prog_10_method_90_code 1 (some .int) ∈ lw_tbl := tb_6 (List.mem_of_getElem? (i := 136) rfl)
set_option maxRecDepth 4000 in
theorem mw_6_137 : Cond.methodLink "StarWalkLaw" 179 yX8_count ∈ lw_tbl := tb_6 (List.mem_of_getElem? (i := 137) rfl)
set_option maxRecDepth 4000 in
theorem mw_6_138 : Cond.instanceMethod yX8_count ∈ lw_tbl := tb_6 (List.mem_of_getElem? (i := 138) rfl)
set_option maxRecDepth 4000 in
theorem mw_6_139 : Cond.selects "StarWalkModel" yX8_count yX8_count ∈ lw_tbl := tb_6 (List.mem_of_getElem? (i := 139) rfl)
set_option maxRecDepth 4000 in
theorem mw_6_140 : Cond.code yX8_count prog_10_method_91_code 2 (some .int) ∈ lw_tbl := tb_6 (List.mem_of_getElem? (i := 140) rfl)
set_option maxRecDepth 4000 in
theorem mw_6_141 : Cond.fieldLink "java/lang/String" 9 "java/lang/String" "value" "[B" ∈ lw_tbl := tb_6 (List.mem_of_getElem? (i := 141) rfl)
set_option maxRecDepth 4000 in
theorem mw_6_142 : Cond.fieldLink "java/lang/String" 15 "java/lang/String" "coder" "B" ∈ lw_tbl := tb_6 (List.mem_of_getElem? (i := 142) rfl)
set_option maxRecDepth 4000 in
theorem mw_s_0 : Cond.selects "StarWalk$Tape" yX5_takeToken yX5_takeToken ∈ lw_tbl := List.mem_append_left _ (List.mem_of_getElem? (i := 0) rfl)
set_option maxRecDepth 4000 in
theorem mw_s_1 : Cond.selects "StarWalk$Tape" yX5_byteAt yX5_byteAt ∈ lw_tbl := List.mem_append_left _ (List.mem_of_getElem? (i := 1) rfl)
set_option maxRecDepth 4000 in
theorem mw_s_2 : Cond.selects "StarWalk$Tape" yX5_refuse yX5_refuse ∈ lw_tbl := List.mem_append_left _ (List.mem_of_getElem? (i := 2) rfl)
set_option maxRecDepth 4000 in
theorem mw_s_3 : Cond.selects "StarWalk$Tape" yX5_readLine yX5_readLine ∈ lw_tbl := List.mem_append_left _ (List.mem_of_getElem? (i := 3) rfl)
set_option maxRecDepth 4000 in
theorem mw_s_4 : Cond.selects "StarWalk$Tape" yX5_isName yX5_isName ∈ lw_tbl := List.mem_append_left _ (List.mem_of_getElem? (i := 4) rfl)
set_option maxRecDepth 4000 in
theorem mw_s_5 : Cond.selects "StarWalk$Tape" yX5_readStar yX5_readStar ∈ lw_tbl := List.mem_append_left _ (List.mem_of_getElem? (i := 5) rfl)
set_option maxRecDepth 4000 in
theorem mw_s_6 : Cond.selects "StarWalk$Tape" yX5_takeNumber yX5_takeNumber ∈ lw_tbl := List.mem_append_left _ (List.mem_of_getElem? (i := 6) rfl)
set_option maxRecDepth 4000 in
theorem mw_s_7 : Cond.selects "StarWalk$Tape" yX5_need yX5_need ∈ lw_tbl := List.mem_append_left _ (List.mem_of_getElem? (i := 7) rfl)
set_option maxRecDepth 4000 in
theorem mw_s_8 : Cond.selects "StarWalk$Tape" yX5_needWithin yX5_needWithin ∈ lw_tbl := List.mem_append_left _ (List.mem_of_getElem? (i := 8) rfl)
set_option maxRecDepth 4000 in
theorem mw_s_9 : Cond.selects "StarWalk$Tape" yX5_takeStop yX5_takeStop ∈ lw_tbl := List.mem_append_left _ (List.mem_of_getElem? (i := 9) rfl)
set_option maxRecDepth 4000 in
theorem mw_s_10 : Cond.selects "StarWalk$Tape" yX5_readKnown yX5_readKnown ∈ lw_tbl := List.mem_append_left _ (List.mem_of_getElem? (i := 10) rfl)
set_option maxRecDepth 4000 in
theorem mw_s_11 : Cond.selects "StarWalk$Tape" yX5_readWalker yX5_readWalker ∈ lw_tbl := List.mem_append_left _ (List.mem_of_getElem? (i := 11) rfl)
set_option maxRecDepth 4000 in
theorem mw_s_12 : Cond.selects "StarWalk$Tape" yX5_readWell yX5_readWell ∈ lw_tbl := List.mem_append_left _ (List.mem_of_getElem? (i := 12) rfl)
set_option maxRecDepth 4000 in
theorem mw_s_13 : Cond.selects "StarWalk$Tape" yX5_tellOnce yX5_tellOnce ∈ lw_tbl := List.mem_append_left _ (List.mem_of_getElem? (i := 13) rfl)
set_option maxRecDepth 4000 in
theorem mw_s_14 : Cond.selects "StarWalk$Tape" yX5_readWind yX5_readWind ∈ lw_tbl := List.mem_append_left _ (List.mem_of_getElem? (i := 14) rfl)
set_option maxRecDepth 4000 in
theorem mw_s_15 : Cond.selects "StarWalk$Tape" yX5_readWater yX5_readWater ∈ lw_tbl := List.mem_append_left _ (List.mem_of_getElem? (i := 15) rfl)
set_option maxRecDepth 4000 in
theorem mw_s_16 : Cond.selects "StarWalk$Tape" yX5_readCloud yX5_readCloud ∈ lw_tbl := List.mem_append_left _ (List.mem_of_getElem? (i := 16) rfl)
set_option maxRecDepth 4000 in
theorem mw_s_17 : Cond.selects "StarWalk$Tape" yX5_readPlan yX5_readPlan ∈ lw_tbl := List.mem_append_left _ (List.mem_of_getElem? (i := 17) rfl)
set_option maxRecDepth 4000 in
theorem mw_s_18 : Cond.selects "StarWalk$Tape" yX5_namesNoStar yX5_namesNoStar ∈ lw_tbl := List.mem_append_left _ (List.mem_of_getElem? (i := 18) rfl)
set_option maxRecDepth 4000 in
theorem mw_s_19 : Cond.selects "StarWalk" yX7_mayBeSet yX7_mayBeSet ∈ lw_tbl := List.mem_append_left _ (List.mem_of_getElem? (i := 19) rfl)
set_option maxRecDepth 4000 in
theorem mw_s_20 : Cond.selects "StarWalk$Search" yX3_extend yX3_extend ∈ lw_tbl := List.mem_append_left _ (List.mem_of_getElem? (i := 20) rfl)
set_option maxRecDepth 4000 in
theorem mw_s_21 : Cond.selects "StarWalk$Search" yX3_judge yX3_judge ∈ lw_tbl := List.mem_append_left _ (List.mem_of_getElem? (i := 21) rfl)
set_option maxRecDepth 4000 in
theorem mw_s_22 : Cond.selects "StarWalk" yX7_isOnTheWayKnowing yX7_isOnTheWayKnowing ∈ lw_tbl := List.mem_append_left _ (List.mem_of_getElem? (i := 22) rfl)
set_option maxRecDepth 4000 in
theorem mw_s_23 : Cond.selects "StarWalk" yX7_isAtWellUnder yX7_isAtWellUnder ∈ lw_tbl := List.mem_append_left _ (List.mem_of_getElem? (i := 23) rfl)
set_option maxRecDepth 4000 in
theorem mw_s_24 : Cond.selects "StarWalk$Odds" yX1_weigh yX1_weigh ∈ lw_tbl := List.mem_append_left _ (List.mem_of_getElem? (i := 24) rfl)
set_option maxRecDepth 4000 in
theorem mw_s_25 : Cond.selects "StarWalk" yX7_endRead yX7_endRead ∈ lw_tbl := List.mem_append_left _ (List.mem_of_getElem? (i := 25) rfl)
set_option maxRecDepth 4000 in
theorem mw_s_26 : Cond.selects "StarWalkModel" yX8_firstDraft yX8_firstDraft ∈ lw_tbl := List.mem_append_left _ (List.mem_of_getElem? (i := 26) rfl)
set_option maxRecDepth 4000 in
theorem mw_s_27 : Cond.selects "StarWalkModel" yX8_keepDraft yX8_keepDraft ∈ lw_tbl := List.mem_append_left _ (List.mem_of_getElem? (i := 27) rfl)
set_option maxRecDepth 4000 in
theorem mw_s_28 : Cond.selects "StarWalkModel" yX8_next1 yX8_next1 ∈ lw_tbl := List.mem_append_left _ (List.mem_of_getElem? (i := 28) rfl)
set_option maxRecDepth 4000 in
theorem mw_s_29 : Cond.selects "StarWalkModel" yX8_byteAt yX8_byteAt ∈ lw_tbl := List.mem_append_left _ (List.mem_of_getElem? (i := 29) rfl)
set_option maxRecDepth 4000 in
theorem mw_s_30 : Cond.selects "StarWalkModel" yX8_needs yX8_needs ∈ lw_tbl := List.mem_append_left _ (List.mem_of_getElem? (i := 30) rfl)
set_option maxRecDepth 4000 in
theorem mw_s_31 : Cond.selects "StarWalkModel" yX8_readLine yX8_readLine ∈ lw_tbl := List.mem_append_left _ (List.mem_of_getElem? (i := 31) rfl)
set_option maxRecDepth 4000 in
theorem mw_s_32 : Cond.selects "StarWalkModel" yX8_lineNow yX8_lineNow ∈ lw_tbl := List.mem_append_left _ (List.mem_of_getElem? (i := 32) rfl)
set_option maxRecDepth 4000 in
theorem mw_s_33 : Cond.selects "StarWalkModel" yX8_is yX8_is ∈ lw_tbl := List.mem_append_left _ (List.mem_of_getElem? (i := 33) rfl)
set_option maxRecDepth 4000 in
theorem mw_s_34 : Cond.selects "StarWalkModel" yX8_ends yX8_ends ∈ lw_tbl := List.mem_append_left _ (List.mem_of_getElem? (i := 34) rfl)
set_option maxRecDepth 4000 in
theorem mw_s_35 : Cond.selects "StarWalkModel" yX8_readLineOf yX8_readLineOf ∈ lw_tbl := List.mem_append_left _ (List.mem_of_getElem? (i := 35) rfl)
set_option maxRecDepth 4000 in
theorem mw_s_36 : Cond.selects "StarWalkModel" yX8_readStar yX8_readStar ∈ lw_tbl := List.mem_append_left _ (List.mem_of_getElem? (i := 36) rfl)
set_option maxRecDepth 4000 in
theorem mw_s_37 : Cond.selects "StarWalkModel" yX8_readNumber yX8_readNumber ∈ lw_tbl := List.mem_append_left _ (List.mem_of_getElem? (i := 37) rfl)
set_option maxRecDepth 4000 in
theorem mw_s_38 : Cond.selects "StarWalkModel" yX8_looked yX8_looked ∈ lw_tbl := List.mem_append_left _ (List.mem_of_getElem? (i := 38) rfl)
set_option maxRecDepth 4000 in
theorem mw_s_39 : Cond.selects "StarWalkModel" yX8_readKnown yX8_readKnown ∈ lw_tbl := List.mem_append_left _ (List.mem_of_getElem? (i := 39) rfl)
set_option maxRecDepth 4000 in
theorem mw_s_40 : Cond.selects "StarWalkModel" yX8_readCloud yX8_readCloud ∈ lw_tbl := List.mem_append_left _ (List.mem_of_getElem? (i := 40) rfl)
set_option maxRecDepth 4000 in
theorem mw_s_41 : Cond.selects "StarWalkModel" yX8_readPlan yX8_readPlan ∈ lw_tbl := List.mem_append_left _ (List.mem_of_getElem? (i := 41) rfl)
set_option maxRecDepth 4000 in
theorem mw_s_42 : Cond.selects "StarWalkModel" yX8_starts yX8_starts ∈ lw_tbl := List.mem_append_left _ (List.mem_of_getElem? (i := 42) rfl)
set_option maxRecDepth 4000 in
theorem mw_s_43 : Cond.selects "StarWalkModel" yX8_isAtWell yX8_isAtWell ∈ lw_tbl := List.mem_append_left _ (List.mem_of_getElem? (i := 43) rfl)
set_option maxRecDepth 4000 in
theorem mw_s_44 : Cond.selects "StarWalkModel" yX8_isStar yX8_isStar ∈ lw_tbl := List.mem_append_left _ (List.mem_of_getElem? (i := 44) rfl)
set_option maxRecDepth 4000 in
theorem mw_s_45 : Cond.selects "StarWalkModel" yX8_isWalker yX8_isWalker ∈ lw_tbl := List.mem_append_left _ (List.mem_of_getElem? (i := 45) rfl)
set_option maxRecDepth 4000 in
theorem mw_s_46 : Cond.selects "StarWalkModel" yX8_canBe yX8_canBe ∈ lw_tbl := List.mem_append_left _ (List.mem_of_getElem? (i := 46) rfl)
set_option maxRecDepth 4000 in
theorem mw_s_47 : Cond.selects "StarWalkModel" yX8_becomes yX8_becomes ∈ lw_tbl := List.mem_append_left _ (List.mem_of_getElem? (i := 47) rfl)
set_option maxRecDepth 4000 in
theorem mw_s_48 : Cond.selects "StarWalkModel" yX8_isAim yX8_isAim ∈ lw_tbl := List.mem_append_left _ (List.mem_of_getElem? (i := 48) rfl)
set_option maxRecDepth 4000 in
theorem mw_s_49 : Cond.selects "StarWalkModel" yX8_pullNow yX8_pullNow ∈ lw_tbl := List.mem_append_left _ (List.mem_of_getElem? (i := 49) rfl)
set_option maxRecDepth 4000 in
theorem mw_s_50 : Cond.selects "StarWalkModel" yX8_isUp yX8_isUp ∈ lw_tbl := List.mem_append_left _ (List.mem_of_getElem? (i := 50) rfl)
set_option maxRecDepth 4000 in
theorem mw_s_51 : Cond.selects "StarWalkModel" yX8_steps yX8_steps ∈ lw_tbl := List.mem_append_left _ (List.mem_of_getElem? (i := 51) rfl)
set_option maxRecDepth 4000 in
theorem mw_s_52 : Cond.selects "StarWalkModel" yX8_canWalk yX8_canWalk ∈ lw_tbl := List.mem_append_left _ (List.mem_of_getElem? (i := 52) rfl)
set_option maxRecDepth 4000 in
theorem mw_s_53 : Cond.selects "StarWalkModel" yX8_stepsOn yX8_stepsOn ∈ lw_tbl := List.mem_append_left _ (List.mem_of_getElem? (i := 53) rfl)
set_option maxRecDepth 4000 in
theorem mw_s_54 : Cond.selects "StarWalkModel" yX8_settles yX8_settles ∈ lw_tbl := List.mem_append_left _ (List.mem_of_getElem? (i := 54) rfl)
set_option maxRecDepth 4000 in
theorem mw_s_55 : Cond.selects "StarWalkModel" yX8_plansGo yX8_plansGo ∈ lw_tbl := List.mem_append_left _ (List.mem_of_getElem? (i := 55) rfl)
set_option maxRecDepth 4000 in
theorem mw_s_56 : Cond.selects "StarWalkModel" yX8_isBetter yX8_isBetter ∈ lw_tbl := List.mem_append_left _ (List.mem_of_getElem? (i := 56) rfl)
set_option maxRecDepth 4000 in
theorem mw_s_57 : Cond.selects "StarWalkModel" yX8_isRow yX8_isRow ∈ lw_tbl := List.mem_append_left _ (List.mem_of_getElem? (i := 57) rfl)
set_option maxRecDepth 4000 in
theorem mw_s_58 : Cond.selects "StarWalkModel" yX8_known yX8_known ∈ lw_tbl := List.mem_append_left _ (List.mem_of_getElem? (i := 58) rfl)
set_option maxRecDepth 4000 in
theorem mw_s_59 : Cond.selects "StarWalkModel" yX8_knowsJust yX8_knowsJust ∈ lw_tbl := List.mem_append_left _ (List.mem_of_getElem? (i := 59) rfl)
set_option maxRecDepth 4000 in
theorem mw_s_60 : Cond.selects "StarWalkModel" yX8_findOdds yX8_findOdds ∈ lw_tbl := List.mem_append_left _ (List.mem_of_getElem? (i := 60) rfl)
set_option maxRecDepth 4000 in
theorem mw_s_61 : Cond.selects "StarWalkModel" yX8_isSo yX8_isSo ∈ lw_tbl := List.mem_append_left _ (List.mem_of_getElem? (i := 61) rfl)
set_option maxRecDepth 4000 in
theorem mw_s_62 : Cond.selects "StarWalkModel" yX8_copies yX8_copies ∈ lw_tbl := List.mem_append_left _ (List.mem_of_getElem? (i := 62) rfl)
