theorem tin_1 : ∀ w ∈ tables_1_1, w ∈ lw_tbl := fun _ h => List.mem_append_right _ (List.mem_append_left _ h)
theorem tin_2 : ∀ w ∈ tables_1_2, w ∈ lw_tbl := fun _ h => List.mem_append_right _ (List.mem_append_right _ (List.mem_append_left _ h))
theorem tin_3 : ∀ w ∈ tables_1_3, w ∈ lw_tbl := fun _ h => List.mem_append_right _ (List.mem_append_right _ (List.mem_append_right _ (List.mem_append_left _ h)))
theorem tin_4 : ∀ w ∈ tables_1_4, w ∈ lw_tbl := fun _ h => List.mem_append_right _ (List.mem_append_right _ (List.mem_append_right _ (List.mem_append_right _ (List.mem_append_left _ h))))
theorem tin_5 : ∀ w ∈ tables_1_5, w ∈ lw_tbl := fun _ h => List.mem_append_right _ (List.mem_append_right _ (List.mem_append_right _ (List.mem_append_right _ (List.mem_append_right _ (List.mem_append_left _ h)))))
theorem tin_6 : ∀ w ∈ tables_1_6, w ∈ lw_tbl := fun _ h => List.mem_append_right _ (List.mem_append_right _ (List.mem_append_right _ (List.mem_append_right _ (List.mem_append_right _ (List.mem_append_right _ (List.mem_append_left _ h))))))
theorem tin_7 : ∀ w ∈ tables_1_7, w ∈ lw_tbl := fun _ h => List.mem_append_right _ (List.mem_append_right _ (List.mem_append_right _ (List.mem_append_right _ (List.mem_append_right _ (List.mem_append_right _ (List.mem_append_right _ (List.mem_append_left _ h)))))))
theorem tin_8 : ∀ w ∈ tables_1_8, w ∈ lw_tbl := fun _ h => List.mem_append_right _ (List.mem_append_right _ (List.mem_append_right _ (List.mem_append_right _ (List.mem_append_right _ (List.mem_append_right _ (List.mem_append_right _ (List.mem_append_right _ (List.mem_append_left _ h))))))))
theorem tin_9 : ∀ w ∈ tables_1_9, w ∈ lw_tbl := fun _ h => List.mem_append_right _ (List.mem_append_right _ (List.mem_append_right _ (List.mem_append_right _ (List.mem_append_right _ (List.mem_append_right _ (List.mem_append_right _ (List.mem_append_right _ (List.mem_append_right _ (List.mem_append_left _ h)))))))))
theorem tin_10 : ∀ w ∈ tables_1_10, w ∈ lw_tbl := fun _ h => List.mem_append_right _ (List.mem_append_right _ (List.mem_append_right _ (List.mem_append_right _ (List.mem_append_right _ (List.mem_append_right _ (List.mem_append_right _ (List.mem_append_right _ (List.mem_append_right _ (List.mem_append_right _ h)))))))))
theorem pin_1 : ∀ q ∈ lw_privs_1, q ∈ lw_privs := fun _ h => (List.mem_append_left _ h)
theorem pin_2 : ∀ q ∈ lw_privs_2, q ∈ lw_privs := fun _ h => (List.mem_append_right _ (List.mem_append_left _ h))
theorem pin_3 : ∀ q ∈ lw_privs_3, q ∈ lw_privs := fun _ h => (List.mem_append_right _ (List.mem_append_right _ (List.mem_append_left _ h)))
theorem pin_4 : ∀ q ∈ lw_privs_4, q ∈ lw_privs := fun _ h => (List.mem_append_right _ (List.mem_append_right _ (List.mem_append_right _ (List.mem_append_left _ h))))
theorem pin_5 : ∀ q ∈ lw_privs_5, q ∈ lw_privs := fun _ h => (List.mem_append_right _ (List.mem_append_right _ (List.mem_append_right _ (List.mem_append_right _ (List.mem_append_left _ h)))))
theorem pin_6 : ∀ q ∈ lw_privs_6, q ∈ lw_privs := fun _ h => (List.mem_append_right _ (List.mem_append_right _ (List.mem_append_right _ (List.mem_append_right _ (List.mem_append_right _ (List.mem_append_left _ h))))))
theorem pin_7 : ∀ q ∈ lw_privs_7, q ∈ lw_privs := fun _ h => (List.mem_append_right _ (List.mem_append_right _ (List.mem_append_right _ (List.mem_append_right _ (List.mem_append_right _ (List.mem_append_right _ (List.mem_append_left _ h)))))))
theorem pin_8 : ∀ q ∈ lw_privs_8, q ∈ lw_privs := fun _ h => (List.mem_append_right _ (List.mem_append_right _ (List.mem_append_right _ (List.mem_append_right _ (List.mem_append_right _ (List.mem_append_right _ (List.mem_append_right _ (List.mem_append_left _ h))))))))
theorem pin_9 : ∀ q ∈ lw_privs_9, q ∈ lw_privs := fun _ h => (List.mem_append_right _ (List.mem_append_right _ (List.mem_append_right _ (List.mem_append_right _ (List.mem_append_right _ (List.mem_append_right _ (List.mem_append_right _ (List.mem_append_right _ (List.mem_append_left _ h)))))))))
theorem pin_10 : ∀ q ∈ lw_privs_10, q ∈ lw_privs := fun _ h => (List.mem_append_right _ (List.mem_append_right _ (List.mem_append_right _ (List.mem_append_right _ (List.mem_append_right _ (List.mem_append_right _ (List.mem_append_right _ (List.mem_append_right _ (List.mem_append_right _ (List.mem_append_left _ h))))))))))
theorem pin_11 : ∀ q ∈ lw_privs_11, q ∈ lw_privs := fun _ h => (List.mem_append_right _ (List.mem_append_right _ (List.mem_append_right _ (List.mem_append_right _ (List.mem_append_right _ (List.mem_append_right _ (List.mem_append_right _ (List.mem_append_right _ (List.mem_append_right _ (List.mem_append_right _ h))))))))))
theorem u_0 : Cond.code yX10_isDigit cX10_isDigit 1 (some .boolean) ∈ lw_tbl := tin_3 _ (List.mem_of_getElem? (i := 154) rfl)
theorem u_1 : Cond.code yX10_isLetter cX10_isLetter 1 (some .boolean) ∈ lw_tbl := tin_3 _ (List.mem_of_getElem? (i := 85) rfl)
theorem u_2 : Cond.code yX10_rewind cX10_rewind 1 none ∈ lw_tbl := tin_3 _ (List.mem_of_getElem? (i := 56) rfl)
theorem u_3 : Cond.fieldLink RX10 19 "CellSlide$Tape" "at" "I" ∈ lw_tbl := tin_1 _ (List.mem_of_getElem? (i := 42) rfl)
theorem u_4 : Cond.fieldLink RX10 25 "CellSlide$Tape" "tokenEnd" "I" ∈ lw_tbl := tin_1 _ (List.mem_of_getElem? (i := 48) rfl)
theorem u_5 : Cond.fieldLink RX10 38 "CellSlide$Tape" "fault" "I" ∈ lw_tbl := tin_1 _ (List.mem_of_getElem? (i := 58) rfl)
theorem u_6 : Cond.fieldLink RX10 41 "CellSlide$Tape" "place" "I" ∈ lw_tbl := tin_1 _ (List.mem_of_getElem? (i := 60) rfl)
theorem u_7 : Cond.code yX10_wrong cX10_wrong 3 (some .boolean) ∈ lw_tbl := tin_3 _ (List.mem_of_getElem? (i := 77) rfl)
theorem u_8 : Cond.code yX10_peek cX10_peek 1 (some .int) ∈ lw_tbl := tin_3 _ (List.mem_of_getElem? (i := 73) rfl)
theorem u_9 : Cond.fieldLink RX10 15 "CellSlide$Tape" "length" "I" ∈ lw_tbl := tin_1 _ (List.mem_of_getElem? (i := 38) rfl)
theorem u_10 : Cond.fieldLink RX10 9 "CellSlide$Tape" "bytes" "[I" ∈ lw_tbl := tin_1 _ (List.mem_of_getElem? (i := 35) rfl)
theorem u_11 : Cond.code yX10_takesSign cX10_takesSign 2 (some .boolean) ∈ lw_tbl := tin_3 _ (List.mem_of_getElem? (i := 179) rfl)
theorem u_12 : Cond.methodLink RX10 44 yX10_peek ∈ lw_tbl := tin_3 _ (List.mem_of_getElem? (i := 82) rfl)
theorem u_13 : Cond.instanceMethod yX10_peek ∈ lw_tbl := tin_3 _ (List.mem_of_getElem? (i := 71) rfl)
theorem u_14 : Cond.selects RX10 yX10_peek yX10_peek ∈ lw_tbl := tin_3 _ (List.mem_of_getElem? (i := 72) rfl)
theorem u_15 : Cond.initialized RX10 ∈ lw_tbl := tin_1 _ (List.mem_of_getElem? (i := 2) rfl)
theorem u_16 : Cond.code yX10_needsSign cX10_needsSign 2 (some .boolean) ∈ lw_tbl := tin_3 _ (List.mem_of_getElem? (i := 199) rfl)
theorem u_17 : Cond.methodLink RX10 48 yX10_wrong ∈ lw_tbl := tin_3 _ (List.mem_of_getElem? (i := 86) rfl)
theorem u_18 : Cond.instanceMethod yX10_wrong ∈ lw_tbl := tin_3 _ (List.mem_of_getElem? (i := 75) rfl)
theorem u_19 : Cond.selects RX10 yX10_wrong yX10_wrong ∈ lw_tbl := tin_3 _ (List.mem_of_getElem? (i := 76) rfl)
theorem u_20 : Cond.code yX10_append cX10_append 3 none ∈ lw_tbl := tin_3 _ (List.mem_of_getElem? (i := 36) rfl)
theorem u_21 : Cond.code yX10_takesNumber cX10_takesNumber 3 (some .boolean) ∈ lw_tbl := tin_3 _ (List.mem_of_getElem? (i := 151) rfl)
theorem u_22 : Cond.methodLink RX10 61 yX10_isDigit ∈ lw_tbl := tin_3 _ (List.mem_of_getElem? (i := 152) rfl)
theorem u_23 : Cond.static yX10_isDigit ∈ lw_tbl := tin_3 _ (List.mem_of_getElem? (i := 153) rfl)
theorem u_24 : Cond.fieldLink RX10 22 "CellSlide$Tape" "tokenAt" "I" ∈ lw_tbl := tin_1 _ (List.mem_of_getElem? (i := 45) rfl)
theorem u_25 : Cond.fieldLink RX10 35 "CellSlide$Tape" "number" "I" ∈ lw_tbl := tin_1 _ (List.mem_of_getElem? (i := 55) rfl)
theorem u_26 : Cond.code yX10_register cX10_register 2 (some .int) ∈ lw_tbl := tin_5 _ (List.mem_of_getElem? (i := 139) rfl)
theorem u_27 : Cond.code yX10_isName cX10_isName 2 (some .boolean) ∈ lw_tbl := tin_3 _ (List.mem_of_getElem? (i := 166) rfl)
theorem u_28 : Cond.fieldLink RX10 28 "CellSlide$Tape" "own" "I" ∈ lw_tbl := tin_1 _ (List.mem_of_getElem? (i := 49) rfl)
theorem u_29 : Cond.fieldLink RX10 31 "CellSlide$Tape" "name" "J" ∈ lw_tbl := tin_1 _ (List.mem_of_getElem? (i := 52) rfl)
theorem u_30 : Cond.constantLong RX10 59 (128) ∈ lw_tbl := tin_3 _ (List.mem_of_getElem? (i := 167) rfl)
theorem u_31 : Cond.code yX8_at cX8_at 2 (some .int) ∈ lw_tbl := tin_3 _ (List.mem_of_getElem? (i := 213) rfl)
theorem u_32 : Cond.fieldLink RX8 21 "CellSlide$State" "held" "[I" ∈ lw_tbl := tin_1 _ (List.mem_of_getElem? (i := 140) rfl)
theorem u_33 : Cond.code yX8_put cX8_put 3 none ∈ lw_tbl := tin_3 _ (List.mem_of_getElem? (i := 191) rfl)
theorem u_34 : Cond.code yX8_headOf cX8_headOf 3 (some .int) ∈ lw_tbl := tin_4 _ (List.mem_of_getElem? (i := 117) rfl)
theorem u_35 : Cond.fieldLink RX8 15 "CellSlide$State" "limit" "I" ∈ lw_tbl := tin_1 _ (List.mem_of_getElem? (i := 128) rfl)
theorem u_36 : Cond.code yX2_sortOfField cX2_sortOfField 3 (some .int) ∈ lw_tbl := tin_3 _ (List.mem_of_getElem? (i := 195) rfl)
theorem u_37 : Cond.fieldLink RX2 23 "CellSlide$Kinds" "sorts" "[I" ∈ lw_tbl := tin_1 _ (List.mem_of_getElem? (i := 104) rfl)
theorem u_38 : Cond.code yX2_named cX2_named 4 (some .int) ∈ lw_tbl := tin_3 _ (List.mem_of_getElem? (i := 171) rfl)
theorem u_39 : Cond.fieldLink RX2 9 "CellSlide$Kinds" "count" "I" ∈ lw_tbl := tin_1 _ (List.mem_of_getElem? (i := 90) rfl)
theorem u_40 : Cond.fieldLink RX2 15 "CellSlide$Kinds" "names" "[J" ∈ lw_tbl := tin_1 _ (List.mem_of_getElem? (i := 95) rfl)
theorem u_41 : Cond.code yX2_wordsOf cX2_wordsOf 3 (some .int) ∈ lw_tbl := tin_3 _ (List.mem_of_getElem? (i := 217) rfl)
theorem u_42 : Cond.fieldLink RX2 19 "CellSlide$Kinds" "fields" "[I" ∈ lw_tbl := tin_1 _ (List.mem_of_getElem? (i := 97) rfl)
theorem u_43 : Cond.code yX2_countCells cX2_countCells 4 (some .int) ∈ lw_tbl := tin_4 _ (List.mem_of_getElem? (i := 19) rfl)
theorem u_44 : Cond.fieldLink RX2 32 "CellSlide$State" "limit" "I" ∈ lw_tbl := tin_1 _ (List.mem_of_getElem? (i := 132) rfl)
theorem u_45 : Cond.fieldLink RX2 37 "CellSlide$State" "words" "I" ∈ lw_tbl := tin_1 _ (List.mem_of_getElem? (i := 126) rfl)
theorem u_46 : Cond.methodLink RX2 40 yX8_at ∈ lw_tbl := tin_4 _ (List.mem_of_getElem? (i := 20) rfl)
theorem u_47 : Cond.instanceMethod yX8_at ∈ lw_tbl := tin_3 _ (List.mem_of_getElem? (i := 211) rfl)
theorem u_48 : Cond.selects RX8 yX8_at yX8_at ∈ lw_tbl := tin_3 _ (List.mem_of_getElem? (i := 212) rfl)
theorem u_49 : Cond.initialized RX8 ∈ lw_tbl := tin_1 _ (List.mem_of_getElem? (i := 4) rfl)
theorem u_50 : Cond.methodLink RX2 44 yX2_wordsOf ∈ lw_tbl := tin_4 _ (List.mem_of_getElem? (i := 21) rfl)
theorem u_51 : Cond.instanceMethod yX2_wordsOf ∈ lw_tbl := tin_3 _ (List.mem_of_getElem? (i := 215) rfl)
theorem u_52 : Cond.selects RX2 yX2_wordsOf yX2_wordsOf ∈ lw_tbl := tin_3 _ (List.mem_of_getElem? (i := 216) rfl)
theorem u_53 : Cond.initialized RX2 ∈ lw_tbl := tin_1 _ (List.mem_of_getElem? (i := 3) rfl)
theorem u_54 : Cond.code yX2_cellAt cX2_cellAt 5 (some .int) ∈ lw_tbl := tin_4 _ (List.mem_of_getElem? (i := 75) rfl)
theorem u_55 : Cond.code yX8_copyFrom cX8_copyFrom 2 none ∈ lw_tbl := tin_4 _ (List.mem_of_getElem? (i := 1) rfl)
theorem u_56 : Cond.fieldLink RX8 9 "CellSlide$State" "words" "I" ∈ lw_tbl := tin_1 _ (List.mem_of_getElem? (i := 122) rfl)
theorem u_57 : Cond.fieldLink RX8 18 "CellSlide$State" "method" "I" ∈ lw_tbl := tin_1 _ (List.mem_of_getElem? (i := 135) rfl)
theorem u_58 : Cond.methodLink RX8 56 arraycopyName ∈ lw_tbl := tin_4 _ (List.mem_of_getElem? (i := 2) rfl)
theorem u_59 : Cond.native arraycopyName ∈ lw_tbl := tin_3 _ (List.mem_of_getElem? (i := 237) rfl)
theorem u_60 : Cond.static arraycopyName ∈ lw_tbl := tin_3 _ (List.mem_of_getElem? (i := 236) rfl)
theorem u_61 : Cond.initialized "java/lang/System" ∈ lw_tbl := tin_1 _ (List.mem_of_getElem? (i := 19) rfl)
theorem u_62 : Cond.fieldLink RX8 25 "CellSlide$State" "going" "Z" ∈ lw_tbl := tin_1 _ (List.mem_of_getElem? (i := 145) rfl)
theorem u_63 : Cond.fieldLink RX8 29 "CellSlide$State" "done" "I" ∈ lw_tbl := tin_1 _ (List.mem_of_getElem? (i := 149) rfl)
theorem u_64 : Cond.fieldLink RX8 32 "CellSlide$State" "live" "[I" ∈ lw_tbl := tin_1 _ (List.mem_of_getElem? (i := 152) rfl)
theorem u_65 : Cond.fieldLink RX8 35 "CellSlide$State" "liveCount" "I" ∈ lw_tbl := tin_1 _ (List.mem_of_getElem? (i := 155) rfl)
theorem u_66 : Cond.fieldLink RX8 38 "CellSlide$State" "blocks" "I" ∈ lw_tbl := tin_1 _ (List.mem_of_getElem? (i := 158) rfl)
theorem u_67 : Cond.fieldLink RX8 41 "CellSlide$State" "cells" "I" ∈ lw_tbl := tin_1 _ (List.mem_of_getElem? (i := 161) rfl)
theorem u_68 : Cond.fieldLink RX8 44 "CellSlide$State" "clearedWeak" "I" ∈ lw_tbl := tin_1 _ (List.mem_of_getElem? (i := 164) rfl)
theorem u_69 : Cond.fieldLink RX8 47 "CellSlide$State" "ended" "I" ∈ lw_tbl := tin_1 _ (List.mem_of_getElem? (i := 166) rfl)
theorem u_70 : Cond.fieldLink RX8 50 "CellSlide$State" "keptCount" "I" ∈ lw_tbl := tin_1 _ (List.mem_of_getElem? (i := 168) rfl)
theorem u_71 : Cond.fieldLink RX8 53 "CellSlide$State" "kept" "[I" ∈ lw_tbl := tin_1 _ (List.mem_of_getElem? (i := 170) rfl)
theorem u_72 : Cond.code yX2_copyFrom cX2_copyFrom 2 none ∈ lw_tbl := tin_3 _ (List.mem_of_getElem? (i := 234) rfl)
theorem u_73 : Cond.methodLink RX2 26 arraycopyName ∈ lw_tbl := tin_3 _ (List.mem_of_getElem? (i := 235) rfl)
theorem u_74 : Cond.code yX8_addCell cX8_addCell 5 (some .int) ∈ lw_tbl := tin_3 _ (List.mem_of_getElem? (i := 187) rfl)
theorem u_75 : Cond.fieldLink RX8 71 "CellSlide$Kinds" "fields" "[I" ∈ lw_tbl := tin_1 _ (List.mem_of_getElem? (i := 101) rfl)
theorem u_76 : Cond.methodLink RX8 76 yX8_put ∈ lw_tbl := tin_3 _ (List.mem_of_getElem? (i := 188) rfl)
theorem u_77 : Cond.instanceMethod yX8_put ∈ lw_tbl := tin_3 _ (List.mem_of_getElem? (i := 189) rfl)
theorem u_78 : Cond.selects RX8 yX8_put yX8_put ∈ lw_tbl := tin_3 _ (List.mem_of_getElem? (i := 190) rfl)
theorem u_79 : Cond.methodLink RX8 80 yX2_sortOfField ∈ lw_tbl := tin_3 _ (List.mem_of_getElem? (i := 192) rfl)
theorem u_80 : Cond.instanceMethod yX2_sortOfField ∈ lw_tbl := tin_3 _ (List.mem_of_getElem? (i := 193) rfl)
theorem u_81 : Cond.selects RX2 yX2_sortOfField yX2_sortOfField ∈ lw_tbl := tin_3 _ (List.mem_of_getElem? (i := 194) rfl)
theorem u_82 : Cond.code yX7_stepsBy cX7_stepsBy 3 (some .int) ∈ lw_tbl := tin_4 _ (List.mem_of_getElem? (i := 59) rfl)
theorem u_83 : Cond.fieldLink RX7 37 "CellSlide$State" "liveCount" "I" ∈ lw_tbl := tin_1 _ (List.mem_of_getElem? (i := 156) rfl)
theorem u_84 : Cond.fieldLink RX7 40 "CellSlide$State" "blocks" "I" ∈ lw_tbl := tin_1 _ (List.mem_of_getElem? (i := 159) rfl)
theorem u_85 : Cond.code yX7_allSteps cX7_allSteps 2 (some .int) ∈ lw_tbl := tin_4 _ (List.mem_of_getElem? (i := 55) rfl)
theorem u_86 : Cond.fieldLink RX7 87 "CellSlide$State" "method" "I" ∈ lw_tbl := tin_1 _ (List.mem_of_getElem? (i := 137) rfl)
theorem u_87 : Cond.methodLink RX7 90 yX7_stepsBy ∈ lw_tbl := tin_4 _ (List.mem_of_getElem? (i := 56) rfl)
theorem u_88 : Cond.instanceMethod yX7_stepsBy ∈ lw_tbl := tin_4 _ (List.mem_of_getElem? (i := 57) rfl)
theorem u_89 : Cond.selects RX7 yX7_stepsBy yX7_stepsBy ∈ lw_tbl := tin_4 _ (List.mem_of_getElem? (i := 58) rfl)
theorem u_90 : Cond.initialized RX7 ∈ lw_tbl := tin_1 _ (List.mem_of_getElem? (i := 6) rfl)
theorem u_91 : Cond.code yX7_stageOf cX7_stageOf 3 (some .int) ∈ lw_tbl := tin_4 _ (List.mem_of_getElem? (i := 41) rfl)
theorem u_92 : Cond.fieldLink RX7 25 "CellSlide$State" "done" "I" ∈ lw_tbl := tin_1 _ (List.mem_of_getElem? (i := 150) rfl)
theorem u_93 : Cond.code yX7_newPlace cX7_newPlace 6 (some .int) ∈ lw_tbl := tin_4 _ (List.mem_of_getElem? (i := 131) rfl)
theorem u_94 : Cond.fieldLink RX7 57 "CellSlide$State" "live" "[I" ∈ lw_tbl := tin_1 _ (List.mem_of_getElem? (i := 153) rfl)
theorem u_95 : Cond.fieldLink RX7 46 "CellSlide$State" "words" "I" ∈ lw_tbl := tin_1 _ (List.mem_of_getElem? (i := 124) rfl)
theorem u_96 : Cond.code yX7_blockFromTop cX7_blockFromTop 5 (some .int) ∈ lw_tbl := tin_4 _ (List.mem_of_getElem? (i := 50) rfl)
theorem u_97 : Cond.code yX7_blockEnd cX7_blockEnd 4 (some .int) ∈ lw_tbl := tin_4 _ (List.mem_of_getElem? (i := 144) rfl)
theorem u_98 : Cond.code yX7_goesUp cX7_goesUp 3 (some .int) ∈ lw_tbl := tin_4 _ (List.mem_of_getElem? (i := 148) rfl)
theorem u_99 : Cond.code yX7_thread cX7_thread 3 none ∈ lw_tbl := tin_5 _ (List.mem_of_getElem? (i := 37) rfl)
theorem u_100 : Cond.code yX7_unthread cX7_unthread 6 none ∈ lw_tbl := tin_5 _ (List.mem_of_getElem? (i := 44) rfl)
theorem u_101 : Cond.code yX11_pointsTo cX11_pointsTo 1 (some .int) ∈ lw_tbl := tin_4 _ (List.mem_of_getElem? (i := 100) rfl)
theorem u_102 : Cond.code yX9_isLiveWord cX9_isLiveWord 2 (some .boolean) ∈ lw_tbl := tin_4 _ (List.mem_of_getElem? (i := 109) rfl)
theorem u_103 : Cond.fieldLink RX9 9 "CellSlide$Survey" "begins" "[I" ∈ lw_tbl := tin_1 _ (List.mem_of_getElem? (i := 208) rfl)
theorem u_104 : Cond.fieldLink RX9 15 "CellSlide$Survey" "foundIndex" "[I" ∈ lw_tbl := tin_1 _ (List.mem_of_getElem? (i := 210) rfl)
theorem u_105 : Cond.code yX9_foundAs cX9_foundAs 2 (some .int) ∈ lw_tbl := tin_4 _ (List.mem_of_getElem? (i := 182) rfl)
theorem u_106 : Cond.code yX9_reach cX9_reach 5 none ∈ lw_tbl := tin_4 _ (List.mem_of_getElem? (i := 104) rfl)
theorem u_107 : Cond.fieldLink RX9 40 "CellSlide$Survey" "without" "I" ∈ lw_tbl := tin_1 _ (List.mem_of_getElem? (i := 223) rfl)
theorem u_108 : Cond.fieldLink RX9 33 "CellSlide$Survey" "count" "I" ∈ lw_tbl := tin_1 _ (List.mem_of_getElem? (i := 219) rfl)
theorem u_109 : Cond.fieldLink RX9 18 "CellSlide$Survey" "order" "[I" ∈ lw_tbl := tin_1 _ (List.mem_of_getElem? (i := 211) rfl)
theorem u_110 : Cond.fieldLink RX9 24 "CellSlide$Survey" "from" "[I" ∈ lw_tbl := tin_1 _ (List.mem_of_getElem? (i := 215) rfl)
theorem u_111 : Cond.fieldLink RX9 27 "CellSlide$Survey" "by" "[I" ∈ lw_tbl := tin_1 _ (List.mem_of_getElem? (i := 216) rfl)
theorem u_112 : Cond.fieldLink RX9 21 "CellSlide$Survey" "far" "[I" ∈ lw_tbl := tin_1 _ (List.mem_of_getElem? (i := 213) rfl)
theorem u_113 : Cond.code yX9_layOut cX9_layOut 4 none ∈ lw_tbl := tin_4 _ (List.mem_of_getElem? (i := 97) rfl)
theorem u_114 : Cond.fieldLink RX9 79 "CellSlide$State" "limit" "I" ∈ lw_tbl := tin_1 _ (List.mem_of_getElem? (i := 131) rfl)
theorem u_115 : Cond.fieldLink RX9 82 "CellSlide$State" "words" "I" ∈ lw_tbl := tin_1 _ (List.mem_of_getElem? (i := 125) rfl)
theorem u_116 : Cond.fieldLink RX9 57 "CellSlide$State" "held" "[I" ∈ lw_tbl := tin_1 _ (List.mem_of_getElem? (i := 141) rfl)
theorem u_117 : Cond.code yX9_look cX9_look 7 none ∈ lw_tbl := tin_4 _ (List.mem_of_getElem? (i := 92) rfl)
theorem u_118 : Cond.code yJ7_fill_53178 cJ7_fill_53178 4 none ∈ lw_tbl := tin_3 _ (List.mem_of_getElem? (i := 63) rfl)
theorem u_119 : Cond.methodLink RX9 47 yJ7_fill_53178 ∈ lw_tbl := tin_4 _ (List.mem_of_getElem? (i := 93) rfl)
theorem u_120 : Cond.static yJ7_fill_53178 ∈ lw_tbl := tin_3 _ (List.mem_of_getElem? (i := 62) rfl)
theorem u_121 : Cond.initialized RJ7 ∈ lw_tbl := tin_1 _ (List.mem_of_getElem? (i := 14) rfl)
theorem u_122 : Cond.methodLink RX9 53 yX9_layOut ∈ lw_tbl := tin_4 _ (List.mem_of_getElem? (i := 94) rfl)
theorem u_123 : Cond.instanceMethod yX9_layOut ∈ lw_tbl := tin_4 _ (List.mem_of_getElem? (i := 96) rfl)
theorem u_124 : Cond.selects RX9 yX9_layOut yX9_layOut ∈ lw_tbl := List.mem_append_left _ (List.mem_map.mpr ⟨(yX9_layOut, 11), pin_2 _ (List.mem_of_getElem? (i := 2) rfl), rfl⟩)
theorem u_125 : Cond.initialized RX9 ∈ lw_tbl := tin_1 _ (List.mem_of_getElem? (i := 5) rfl)
theorem u_126 : Cond.fieldLink RX9 37 "CellSlide$Survey" "liveWords" "I" ∈ lw_tbl := tin_1 _ (List.mem_of_getElem? (i := 221) rfl)
theorem u_127 : Cond.initialized RX11 ∈ lw_tbl := tin_1 _ (List.mem_of_getElem? (i := 1) rfl)
theorem u_128 : Cond.static yX11_pointsTo ∈ lw_tbl := tin_4 _ (List.mem_of_getElem? (i := 99) rfl)
theorem u_129 : Cond.methodLink RX9 66 yX9_reach ∈ lw_tbl := tin_4 _ (List.mem_of_getElem? (i := 101) rfl)
theorem u_130 : Cond.instanceMethod yX9_reach ∈ lw_tbl := tin_4 _ (List.mem_of_getElem? (i := 103) rfl)
theorem u_131 : Cond.selects RX9 yX9_reach yX9_reach ∈ lw_tbl := List.mem_append_left _ (List.mem_map.mpr ⟨(yX9_reach, 11), pin_2 _ (List.mem_of_getElem? (i := 3) rfl), rfl⟩)
theorem u_132 : Cond.fieldLink RX9 43 "CellSlide$Survey" "kinds" "LCellSlide$Kinds;" ∈ lw_tbl := tin_1 _ (List.mem_of_getElem? (i := 207) rfl)
theorem u_133 : Cond.fieldLink RX9 70 "CellSlide$Kinds" "fields" "[I" ∈ lw_tbl := tin_1 _ (List.mem_of_getElem? (i := 98) rfl)
theorem u_134 : Cond.methodLink RX9 75 yX2_sortOfField ∈ lw_tbl := tin_4 _ (List.mem_of_getElem? (i := 105) rfl)
theorem u_135 : Cond.code yX9_wayTo cX9_wayTo 5 (some .int) ∈ lw_tbl := tin_4 _ (List.mem_of_getElem? (i := 190) rfl)
theorem u_136 : Cond.code yX9_shapeOf cX9_shapeOf 3 (some .int) ∈ lw_tbl := tin_4 _ (List.mem_of_getElem? (i := 223) rfl)
theorem u_137 : Cond.methodLink RX9 89 yX9_isLiveWord ∈ lw_tbl := tin_4 _ (List.mem_of_getElem? (i := 157) rfl)
theorem u_138 : Cond.instanceMethod yX9_isLiveWord ∈ lw_tbl := tin_4 _ (List.mem_of_getElem? (i := 107) rfl)
theorem u_139 : Cond.selects RX9 yX9_isLiveWord yX9_isLiveWord ∈ lw_tbl := tin_4 _ (List.mem_of_getElem? (i := 108) rfl)
theorem u_140 : Cond.methodLink RX9 102 yX9_foundAs ∈ lw_tbl := tin_4 _ (List.mem_of_getElem? (i := 224) rfl)
theorem u_141 : Cond.instanceMethod yX9_foundAs ∈ lw_tbl := tin_4 _ (List.mem_of_getElem? (i := 180) rfl)
theorem u_142 : Cond.selects RX9 yX9_foundAs yX9_foundAs ∈ lw_tbl := tin_4 _ (List.mem_of_getElem? (i := 181) rfl)
theorem u_143 : Cond.code yX9_keptBy cX9_keptBy 5 (some .int) ∈ lw_tbl := tin_4 _ (List.mem_of_getElem? (i := 198) rfl)
theorem u_144 : Cond.methodLink RX9 85 yX9_look ∈ lw_tbl := tin_4 _ (List.mem_of_getElem? (i := 199) rfl)
theorem u_145 : Cond.instanceMethod yX9_look ∈ lw_tbl := tin_4 _ (List.mem_of_getElem? (i := 90) rfl)
theorem u_146 : Cond.selects RX9 yX9_look yX9_look ∈ lw_tbl := tin_4 _ (List.mem_of_getElem? (i := 91) rfl)
theorem u_147 : Cond.code yX9_countThreads cX9_countThreads 5 none ∈ lw_tbl := tin_4 _ (List.mem_of_getElem? (i := 156) rfl)
theorem u_148 : Cond.fieldLink RX9 30 "CellSlide$Survey" "threads" "[I" ∈ lw_tbl := tin_1 _ (List.mem_of_getElem? (i := 217) rfl)
theorem u_149 : Cond.methodLink RX9 93 yX8_at ∈ lw_tbl := tin_4 _ (List.mem_of_getElem? (i := 158) rfl)
theorem u_150 : Cond.code yX7_plan cX7_plan 3 none ∈ lw_tbl := tin_4 _ (List.mem_of_getElem? (i := 125) rfl)
theorem u_151 : Cond.fieldLink RX7 15 "CellSlide$Slide" "survey" "LCellSlide$Survey;" ∈ lw_tbl := tin_2 _ (List.mem_of_getElem? (i := 14) rfl)
theorem u_152 : Cond.methodLink RX7 19 yX9_look ∈ lw_tbl := tin_4 _ (List.mem_of_getElem? (i := 126) rfl)
theorem u_153 : Cond.fieldLink RX7 31 "CellSlide$State" "clearedWeak" "I" ∈ lw_tbl := tin_1 _ (List.mem_of_getElem? (i := 165) rfl)
theorem u_154 : Cond.fieldLink RX7 34 "CellSlide$State" "cells" "I" ∈ lw_tbl := tin_1 _ (List.mem_of_getElem? (i := 162) rfl)
theorem u_155 : Cond.fieldLink RX7 43 "CellSlide$State" "limit" "I" ∈ lw_tbl := tin_1 _ (List.mem_of_getElem? (i := 130) rfl)
theorem u_156 : Cond.fieldLink RX7 49 "CellSlide$Survey" "begins" "[I" ∈ lw_tbl := tin_1 _ (List.mem_of_getElem? (i := 209) rfl)
theorem u_157 : Cond.methodLink RX7 53 yX9_isLiveWord ∈ lw_tbl := tin_4 _ (List.mem_of_getElem? (i := 127) rfl)
theorem u_158 : Cond.code yX9_writeShape cX9_writeShape 7 (some .int) ∈ lw_tbl := tin_4 _ (List.mem_of_getElem? (i := 219) rfl)
theorem u_159 : Cond.methodLink RX9 96 yX9_shapeOf ∈ lw_tbl := tin_4 _ (List.mem_of_getElem? (i := 220) rfl)
theorem u_160 : Cond.instanceMethod yX9_shapeOf ∈ lw_tbl := tin_4 _ (List.mem_of_getElem? (i := 222) rfl)
theorem u_161 : Cond.selects RX9 yX9_shapeOf yX9_shapeOf ∈ lw_tbl := List.mem_append_left _ (List.mem_map.mpr ⟨(yX9_shapeOf, 11), pin_2 _ (List.mem_of_getElem? (i := 4) rfl), rfl⟩)
theorem u_162 : Cond.methodLink RX9 99 yX2_wordsOf ∈ lw_tbl := tin_4 _ (List.mem_of_getElem? (i := 225) rfl)
theorem u_163 : Cond.code yX8_clear cX8_clear 2 none ∈ lw_tbl := tin_3 _ (List.mem_of_getElem? (i := 60) rfl)
theorem u_164 : Cond.methodLink RX8 62 yJ7_fill_53178 ∈ lw_tbl := tin_3 _ (List.mem_of_getElem? (i := 61) rfl)
theorem u_165 : Cond.code yJ7_fill_fda19 cJ7_fill_fda19 5 none ∈ lw_tbl := tin_3 _ (List.mem_of_getElem? (i := 66) rfl)
theorem u_166 : Cond.code yJ7_rangeCheck_23922 cJ7_rangeCheck_23922 3 none ∈ lw_tbl := tin_3 _ (List.mem_of_getElem? (i := 69) rfl)
theorem u_167 : Cond.methodLink RJ7 13 yJ7_rangeCheck_23922 ∈ lw_tbl := tin_3 _ (List.mem_of_getElem? (i := 67) rfl)
theorem u_168 : Cond.static yJ7_rangeCheck_23922 ∈ lw_tbl := tin_3 _ (List.mem_of_getElem? (i := 68) rfl)
theorem u_169 : Cond.methodLink RX8 68 yJ7_fill_fda19 ∈ lw_tbl := tin_3 _ (List.mem_of_getElem? (i := 64) rfl)
theorem u_170 : Cond.static yJ7_fill_fda19 ∈ lw_tbl := tin_3 _ (List.mem_of_getElem? (i := 65) rfl)
theorem u_171 : Cond.code yX8_settle cX8_settle 3 none ∈ lw_tbl := tin_5 _ (List.mem_of_getElem? (i := 63) rfl)
theorem u_172 : Cond.code yX7_threadRegister cX7_threadRegister 4 none ∈ lw_tbl := tin_5 _ (List.mem_of_getElem? (i := 34) rfl)
theorem u_173 : Cond.fieldLink RX7 126 "CellSlide$State" "held" "[I" ∈ lw_tbl := tin_1 _ (List.mem_of_getElem? (i := 144) rfl)
theorem u_174 : Cond.methodLink RX7 139 yX7_thread ∈ lw_tbl := tin_5 _ (List.mem_of_getElem? (i := 35) rfl)
theorem u_175 : Cond.static yX7_thread ∈ lw_tbl := tin_5 _ (List.mem_of_getElem? (i := 36) rfl)
theorem u_176 : Cond.code yX7_raise cX7_raise 4 none ∈ lw_tbl := tin_5 _ (List.mem_of_getElem? (i := 59) rfl)
theorem u_177 : Cond.methodLink RX7 129 yX7_newPlace ∈ lw_tbl := tin_5 _ (List.mem_of_getElem? (i := 28) rfl)
theorem u_178 : Cond.instanceMethod yX7_newPlace ∈ lw_tbl := tin_4 _ (List.mem_of_getElem? (i := 129) rfl)
theorem u_179 : Cond.selects RX7 yX7_newPlace yX7_newPlace ∈ lw_tbl := tin_4 _ (List.mem_of_getElem? (i := 130) rfl)
theorem u_180 : Cond.code yX7_forward cX7_forward 5 none ∈ lw_tbl := tin_5 _ (List.mem_of_getElem? (i := 41) rfl)
theorem u_181 : Cond.methodLink RX7 143 yX7_unthread ∈ lw_tbl := tin_5 _ (List.mem_of_getElem? (i := 42) rfl)
theorem u_182 : Cond.static yX7_unthread ∈ lw_tbl := tin_5 _ (List.mem_of_getElem? (i := 43) rfl)
theorem u_183 : Cond.code yX7_stageAddress cX7_stageAddress 3 (some .int) ∈ lw_tbl := tin_4 _ (List.mem_of_getElem? (i := 45) rfl)
theorem u_184 : Cond.methodLink RX7 94 yX7_stageOf ∈ lw_tbl := tin_4 _ (List.mem_of_getElem? (i := 46) rfl)
theorem u_185 : Cond.instanceMethod yX7_stageOf ∈ lw_tbl := tin_4 _ (List.mem_of_getElem? (i := 39) rfl)
theorem u_186 : Cond.selects RX7 yX7_stageOf yX7_stageOf ∈ lw_tbl := tin_4 _ (List.mem_of_getElem? (i := 40) rfl)
theorem u_187 : Cond.methodLink RX7 97 yX7_blockFromTop ∈ lw_tbl := tin_4 _ (List.mem_of_getElem? (i := 47) rfl)
theorem u_188 : Cond.instanceMethod yX7_blockFromTop ∈ lw_tbl := tin_4 _ (List.mem_of_getElem? (i := 48) rfl)
theorem u_189 : Cond.selects RX7 yX7_blockFromTop yX7_blockFromTop ∈ lw_tbl := tin_4 _ (List.mem_of_getElem? (i := 49) rfl)
theorem u_190 : Cond.constant RX7 100 (-1000000) ∈ lw_tbl := tin_4 _ (List.mem_of_getElem? (i := 51) rfl)
theorem u_191 : Cond.code yX3_sumOf cX3_sumOf 4 (some .int) ∈ lw_tbl := tin_6 _ (List.mem_of_getElem? (i := 74) rfl)
theorem u_192 : Cond.code yX3_isNumber cX3_isNumber 1 (some .boolean) ∈ lw_tbl := tin_6 _ (List.mem_of_getElem? (i := 93) rfl)
theorem u_193 : Cond.code yX3_isPointer cX3_isPointer 2 (some .boolean) ∈ lw_tbl := tin_6 _ (List.mem_of_getElem? (i := 96) rfl)
theorem u_194 : Cond.fieldLink RX3 28 "CellSlide$State" "limit" "I" ∈ lw_tbl := tin_1 _ (List.mem_of_getElem? (i := 129) rfl)
theorem u_195 : Cond.fieldLink RX3 31 "CellSlide$State" "words" "I" ∈ lw_tbl := tin_1 _ (List.mem_of_getElem? (i := 123) rfl)
theorem u_196 : Cond.code yX11_sortOf cX11_sortOf 1 (some .int) ∈ lw_tbl := tin_4 _ (List.mem_of_getElem? (i := 30) rfl)
theorem u_197 : Cond.code yX11_numberOf cX11_numberOf 1 (some .int) ∈ lw_tbl := tin_4 _ (List.mem_of_getElem? (i := 33) rfl)
theorem u_198 : Cond.code yX3_heldAt cX3_heldAt 3 (some .int) ∈ lw_tbl := tin_6 _ (List.mem_of_getElem? (i := 90) rfl)
theorem u_199 : Cond.code yX3_writeHeld cX3_writeHeld 3 none ∈ lw_tbl := tin_6 _ (List.mem_of_getElem? (i := 70) rfl)
theorem u_200 : Cond.fieldLink RX3 11 "CellSlide$Picture" "bytes" "[I" ∈ lw_tbl := tin_2 _ (List.mem_of_getElem? (i := 192) rfl)
theorem u_201 : Cond.fieldLink RX3 15 "CellSlide$Picture" "length" "I" ∈ lw_tbl := tin_2 _ (List.mem_of_getElem? (i := 194) rfl)
theorem u_202 : Cond.static yX11_sortOf ∈ lw_tbl := tin_4 _ (List.mem_of_getElem? (i := 29) rfl)
theorem u_203 : Cond.code yX3_write cX3_write 3 none ∈ lw_tbl := tin_6 _ (List.mem_of_getElem? (i := 65) rfl)
theorem u_204 : Cond.fieldLink RX3 23 "CellSlide$State" "method" "I" ∈ lw_tbl := tin_1 _ (List.mem_of_getElem? (i := 136) rfl)
theorem u_205 : Cond.methodLink RX3 34 yX8_at ∈ lw_tbl := tin_6 _ (List.mem_of_getElem? (i := 66) rfl)
theorem u_206 : Cond.methodLink RX3 38 yX3_writeHeld ∈ lw_tbl := tin_6 _ (List.mem_of_getElem? (i := 67) rfl)
theorem u_207 : Cond.instanceMethod yX3_writeHeld ∈ lw_tbl := tin_6 _ (List.mem_of_getElem? (i := 69) rfl)
theorem u_208 : Cond.selects RX3 yX3_writeHeld yX3_writeHeld ∈ lw_tbl := List.mem_append_left _ (List.mem_map.mpr ⟨(yX3_writeHeld, 3), pin_4 _ (List.mem_of_getElem? (i := 9) rfl), rfl⟩)
theorem u_209 : Cond.initialized RX3 ∈ lw_tbl := tin_1 _ (List.mem_of_getElem? (i := 12) rfl)
theorem u_210 : Cond.methodLink RX3 42 yX3_sumOf ∈ lw_tbl := tin_6 _ (List.mem_of_getElem? (i := 72) rfl)
theorem u_211 : Cond.static yX3_sumOf ∈ lw_tbl := tin_6 _ (List.mem_of_getElem? (i := 73) rfl)
theorem elw_0 : ∀ w ∈ wE_0, w ∈ lw_tbl := (List.forall_mem_cons.mpr ⟨u_0, (List.forall_mem_cons.mpr ⟨u_1, (List.forall_mem_cons.mpr ⟨u_2, (List.forall_mem_cons.mpr ⟨u_3, (List.forall_mem_cons.mpr ⟨u_4, (List.forall_mem_cons.mpr ⟨u_5, (List.forall_mem_cons.mpr ⟨u_6, (List.forall_mem_cons.mpr ⟨u_7, (List.forall_mem_cons.mpr ⟨u_8, (List.forall_mem_cons.mpr ⟨u_9, (List.forall_mem_cons.mpr ⟨u_10, (List.forall_mem_cons.mpr ⟨u_11, (List.forall_mem_cons.mpr ⟨u_12, (List.forall_mem_cons.mpr ⟨u_13, (List.forall_mem_cons.mpr ⟨u_14, (List.forall_mem_cons.mpr ⟨u_15, (List.forall_mem_cons.mpr ⟨u_16, (List.forall_mem_cons.mpr ⟨u_17, (List.forall_mem_cons.mpr ⟨u_18, (List.forall_mem_cons.mpr ⟨u_19, (List.forall_mem_cons.mpr ⟨u_20, (List.forall_mem_cons.mpr ⟨u_21, (List.forall_mem_cons.mpr ⟨u_22, (List.forall_mem_cons.mpr ⟨u_23, (fun _ h => absurd h List.not_mem_nil)⟩)⟩)⟩)⟩)⟩)⟩)⟩)⟩)⟩)⟩)⟩)⟩)⟩)⟩)⟩)⟩)⟩)⟩)⟩)⟩)⟩)⟩)⟩)⟩)
theorem ein_0 : GoodIn lw_tbl wE_0 := fun w h => ⟨elw_0 w h, good_of_word (List.all_eq_true.mp (by decide +kernel : wE_0.all goodWord = true) w h)⟩
theorem elw_1 : ∀ w ∈ wE_1, w ∈ lw_tbl := (List.forall_mem_cons.mpr ⟨u_24, (List.forall_mem_cons.mpr ⟨u_25, (List.forall_mem_cons.mpr ⟨u_26, (List.forall_mem_cons.mpr ⟨u_27, (List.forall_mem_cons.mpr ⟨u_28, (List.forall_mem_cons.mpr ⟨u_29, (List.forall_mem_cons.mpr ⟨u_30, (List.forall_mem_cons.mpr ⟨u_31, (List.forall_mem_cons.mpr ⟨u_32, (List.forall_mem_cons.mpr ⟨u_33, (List.forall_mem_cons.mpr ⟨u_34, (List.forall_mem_cons.mpr ⟨u_35, (List.forall_mem_cons.mpr ⟨u_36, (List.forall_mem_cons.mpr ⟨u_37, (List.forall_mem_cons.mpr ⟨u_38, (List.forall_mem_cons.mpr ⟨u_39, (List.forall_mem_cons.mpr ⟨u_40, (List.forall_mem_cons.mpr ⟨u_41, (List.forall_mem_cons.mpr ⟨u_42, (List.forall_mem_cons.mpr ⟨u_43, (List.forall_mem_cons.mpr ⟨u_44, (List.forall_mem_cons.mpr ⟨u_45, (List.forall_mem_cons.mpr ⟨u_46, (List.forall_mem_cons.mpr ⟨u_47, (fun _ h => absurd h List.not_mem_nil)⟩)⟩)⟩)⟩)⟩)⟩)⟩)⟩)⟩)⟩)⟩)⟩)⟩)⟩)⟩)⟩)⟩)⟩)⟩)⟩)⟩)⟩)⟩)⟩)
theorem ein_1 : GoodIn lw_tbl wE_1 := fun w h => ⟨elw_1 w h, good_of_word (List.all_eq_true.mp (by decide +kernel : wE_1.all goodWord = true) w h)⟩
theorem elw_2 : ∀ w ∈ wE_2, w ∈ lw_tbl := (List.forall_mem_cons.mpr ⟨u_48, (List.forall_mem_cons.mpr ⟨u_49, (List.forall_mem_cons.mpr ⟨u_50, (List.forall_mem_cons.mpr ⟨u_51, (List.forall_mem_cons.mpr ⟨u_52, (List.forall_mem_cons.mpr ⟨u_53, (List.forall_mem_cons.mpr ⟨u_54, (List.forall_mem_cons.mpr ⟨u_55, (List.forall_mem_cons.mpr ⟨u_56, (List.forall_mem_cons.mpr ⟨u_57, (List.forall_mem_cons.mpr ⟨u_58, (List.forall_mem_cons.mpr ⟨u_59, (List.forall_mem_cons.mpr ⟨u_60, (List.forall_mem_cons.mpr ⟨u_61, (List.forall_mem_cons.mpr ⟨u_62, (List.forall_mem_cons.mpr ⟨u_63, (List.forall_mem_cons.mpr ⟨u_64, (List.forall_mem_cons.mpr ⟨u_65, (List.forall_mem_cons.mpr ⟨u_66, (List.forall_mem_cons.mpr ⟨u_67, (List.forall_mem_cons.mpr ⟨u_68, (List.forall_mem_cons.mpr ⟨u_69, (List.forall_mem_cons.mpr ⟨u_70, (List.forall_mem_cons.mpr ⟨u_71, (fun _ h => absurd h List.not_mem_nil)⟩)⟩)⟩)⟩)⟩)⟩)⟩)⟩)⟩)⟩)⟩)⟩)⟩)⟩)⟩)⟩)⟩)⟩)⟩)⟩)⟩)⟩)⟩)⟩)
theorem ein_2 : GoodIn lw_tbl wE_2 := fun w h => ⟨elw_2 w h, good_of_word (List.all_eq_true.mp (by decide +kernel : wE_2.all goodWord = true) w h)⟩
theorem elw_3 : ∀ w ∈ wE_3, w ∈ lw_tbl := (List.forall_mem_cons.mpr ⟨u_72, (List.forall_mem_cons.mpr ⟨u_73, (List.forall_mem_cons.mpr ⟨u_74, (List.forall_mem_cons.mpr ⟨u_75, (List.forall_mem_cons.mpr ⟨u_76, (List.forall_mem_cons.mpr ⟨u_77, (List.forall_mem_cons.mpr ⟨u_78, (List.forall_mem_cons.mpr ⟨u_79, (List.forall_mem_cons.mpr ⟨u_80, (List.forall_mem_cons.mpr ⟨u_81, (List.forall_mem_cons.mpr ⟨u_82, (List.forall_mem_cons.mpr ⟨u_83, (List.forall_mem_cons.mpr ⟨u_84, (List.forall_mem_cons.mpr ⟨u_85, (List.forall_mem_cons.mpr ⟨u_86, (List.forall_mem_cons.mpr ⟨u_87, (List.forall_mem_cons.mpr ⟨u_88, (List.forall_mem_cons.mpr ⟨u_89, (List.forall_mem_cons.mpr ⟨u_90, (List.forall_mem_cons.mpr ⟨u_91, (List.forall_mem_cons.mpr ⟨u_92, (List.forall_mem_cons.mpr ⟨u_93, (List.forall_mem_cons.mpr ⟨u_94, (List.forall_mem_cons.mpr ⟨u_95, (fun _ h => absurd h List.not_mem_nil)⟩)⟩)⟩)⟩)⟩)⟩)⟩)⟩)⟩)⟩)⟩)⟩)⟩)⟩)⟩)⟩)⟩)⟩)⟩)⟩)⟩)⟩)⟩)⟩)
theorem ein_3 : GoodIn lw_tbl wE_3 := fun w h => ⟨elw_3 w h, good_of_word (List.all_eq_true.mp (by decide +kernel : wE_3.all goodWord = true) w h)⟩
theorem elw_4 : ∀ w ∈ wE_4, w ∈ lw_tbl := (List.forall_mem_cons.mpr ⟨u_96, (List.forall_mem_cons.mpr ⟨u_97, (List.forall_mem_cons.mpr ⟨u_98, (List.forall_mem_cons.mpr ⟨u_99, (List.forall_mem_cons.mpr ⟨u_100, (List.forall_mem_cons.mpr ⟨u_101, (List.forall_mem_cons.mpr ⟨u_102, (List.forall_mem_cons.mpr ⟨u_103, (List.forall_mem_cons.mpr ⟨u_104, (List.forall_mem_cons.mpr ⟨u_105, (List.forall_mem_cons.mpr ⟨u_106, (List.forall_mem_cons.mpr ⟨u_107, (List.forall_mem_cons.mpr ⟨u_108, (List.forall_mem_cons.mpr ⟨u_109, (List.forall_mem_cons.mpr ⟨u_110, (List.forall_mem_cons.mpr ⟨u_111, (List.forall_mem_cons.mpr ⟨u_112, (List.forall_mem_cons.mpr ⟨u_113, (List.forall_mem_cons.mpr ⟨u_114, (List.forall_mem_cons.mpr ⟨u_115, (List.forall_mem_cons.mpr ⟨u_116, (List.forall_mem_cons.mpr ⟨u_117, (List.forall_mem_cons.mpr ⟨u_118, (List.forall_mem_cons.mpr ⟨u_119, (fun _ h => absurd h List.not_mem_nil)⟩)⟩)⟩)⟩)⟩)⟩)⟩)⟩)⟩)⟩)⟩)⟩)⟩)⟩)⟩)⟩)⟩)⟩)⟩)⟩)⟩)⟩)⟩)⟩)
theorem ein_4 : GoodIn lw_tbl wE_4 := fun w h => ⟨elw_4 w h, good_of_word (List.all_eq_true.mp (by decide +kernel : wE_4.all goodWord = true) w h)⟩
theorem elw_5 : ∀ w ∈ wE_5, w ∈ lw_tbl := (List.forall_mem_cons.mpr ⟨u_120, (List.forall_mem_cons.mpr ⟨u_121, (List.forall_mem_cons.mpr ⟨u_122, (List.forall_mem_cons.mpr ⟨u_123, (List.forall_mem_cons.mpr ⟨u_124, (List.forall_mem_cons.mpr ⟨u_125, (List.forall_mem_cons.mpr ⟨u_126, (List.forall_mem_cons.mpr ⟨u_127, (List.forall_mem_cons.mpr ⟨u_128, (List.forall_mem_cons.mpr ⟨u_129, (List.forall_mem_cons.mpr ⟨u_130, (List.forall_mem_cons.mpr ⟨u_131, (List.forall_mem_cons.mpr ⟨u_132, (List.forall_mem_cons.mpr ⟨u_133, (List.forall_mem_cons.mpr ⟨u_134, (List.forall_mem_cons.mpr ⟨u_135, (List.forall_mem_cons.mpr ⟨u_136, (List.forall_mem_cons.mpr ⟨u_137, (List.forall_mem_cons.mpr ⟨u_138, (List.forall_mem_cons.mpr ⟨u_139, (List.forall_mem_cons.mpr ⟨u_140, (List.forall_mem_cons.mpr ⟨u_141, (List.forall_mem_cons.mpr ⟨u_142, (List.forall_mem_cons.mpr ⟨u_143, (fun _ h => absurd h List.not_mem_nil)⟩)⟩)⟩)⟩)⟩)⟩)⟩)⟩)⟩)⟩)⟩)⟩)⟩)⟩)⟩)⟩)⟩)⟩)⟩)⟩)⟩)⟩)⟩)⟩)
theorem ein_5 : GoodIn lw_tbl wE_5 := fun w h => ⟨elw_5 w h, good_of_word (List.all_eq_true.mp (by decide +kernel : wE_5.all goodWord = true) w h)⟩
theorem elw_6 : ∀ w ∈ wE_6, w ∈ lw_tbl := (List.forall_mem_cons.mpr ⟨u_144, (List.forall_mem_cons.mpr ⟨u_145, (List.forall_mem_cons.mpr ⟨u_146, (List.forall_mem_cons.mpr ⟨u_147, (List.forall_mem_cons.mpr ⟨u_148, (List.forall_mem_cons.mpr ⟨u_149, (List.forall_mem_cons.mpr ⟨u_150, (List.forall_mem_cons.mpr ⟨u_151, (List.forall_mem_cons.mpr ⟨u_152, (List.forall_mem_cons.mpr ⟨u_153, (List.forall_mem_cons.mpr ⟨u_154, (List.forall_mem_cons.mpr ⟨u_155, (List.forall_mem_cons.mpr ⟨u_156, (List.forall_mem_cons.mpr ⟨u_157, (List.forall_mem_cons.mpr ⟨u_158, (List.forall_mem_cons.mpr ⟨u_159, (List.forall_mem_cons.mpr ⟨u_160, (List.forall_mem_cons.mpr ⟨u_161, (List.forall_mem_cons.mpr ⟨u_162, (List.forall_mem_cons.mpr ⟨u_163, (List.forall_mem_cons.mpr ⟨u_164, (List.forall_mem_cons.mpr ⟨u_165, (List.forall_mem_cons.mpr ⟨u_166, (List.forall_mem_cons.mpr ⟨u_167, (fun _ h => absurd h List.not_mem_nil)⟩)⟩)⟩)⟩)⟩)⟩)⟩)⟩)⟩)⟩)⟩)⟩)⟩)⟩)⟩)⟩)⟩)⟩)⟩)⟩)⟩)⟩)⟩)⟩)
theorem ein_6 : GoodIn lw_tbl wE_6 := fun w h => ⟨elw_6 w h, good_of_word (List.all_eq_true.mp (by decide +kernel : wE_6.all goodWord = true) w h)⟩
theorem elw_7 : ∀ w ∈ wE_7, w ∈ lw_tbl := (List.forall_mem_cons.mpr ⟨u_168, (List.forall_mem_cons.mpr ⟨u_169, (List.forall_mem_cons.mpr ⟨u_170, (List.forall_mem_cons.mpr ⟨u_171, (List.forall_mem_cons.mpr ⟨u_172, (List.forall_mem_cons.mpr ⟨u_173, (List.forall_mem_cons.mpr ⟨u_174, (List.forall_mem_cons.mpr ⟨u_175, (List.forall_mem_cons.mpr ⟨u_176, (List.forall_mem_cons.mpr ⟨u_177, (List.forall_mem_cons.mpr ⟨u_178, (List.forall_mem_cons.mpr ⟨u_179, (List.forall_mem_cons.mpr ⟨u_180, (List.forall_mem_cons.mpr ⟨u_181, (List.forall_mem_cons.mpr ⟨u_182, (List.forall_mem_cons.mpr ⟨u_183, (List.forall_mem_cons.mpr ⟨u_184, (List.forall_mem_cons.mpr ⟨u_185, (List.forall_mem_cons.mpr ⟨u_186, (List.forall_mem_cons.mpr ⟨u_187, (List.forall_mem_cons.mpr ⟨u_188, (List.forall_mem_cons.mpr ⟨u_189, (List.forall_mem_cons.mpr ⟨u_190, (List.forall_mem_cons.mpr ⟨u_191, (fun _ h => absurd h List.not_mem_nil)⟩)⟩)⟩)⟩)⟩)⟩)⟩)⟩)⟩)⟩)⟩)⟩)⟩)⟩)⟩)⟩)⟩)⟩)⟩)⟩)⟩)⟩)⟩)⟩)
theorem ein_7 : GoodIn lw_tbl wE_7 := fun w h => ⟨elw_7 w h, good_of_word (List.all_eq_true.mp (by decide +kernel : wE_7.all goodWord = true) w h)⟩
theorem elw_8 : ∀ w ∈ wE_8, w ∈ lw_tbl := (List.forall_mem_cons.mpr ⟨u_192, (List.forall_mem_cons.mpr ⟨u_193, (List.forall_mem_cons.mpr ⟨u_194, (List.forall_mem_cons.mpr ⟨u_195, (List.forall_mem_cons.mpr ⟨u_196, (List.forall_mem_cons.mpr ⟨u_197, (List.forall_mem_cons.mpr ⟨u_198, (List.forall_mem_cons.mpr ⟨u_199, (List.forall_mem_cons.mpr ⟨u_200, (List.forall_mem_cons.mpr ⟨u_201, (List.forall_mem_cons.mpr ⟨u_202, (List.forall_mem_cons.mpr ⟨u_203, (List.forall_mem_cons.mpr ⟨u_204, (List.forall_mem_cons.mpr ⟨u_205, (List.forall_mem_cons.mpr ⟨u_206, (List.forall_mem_cons.mpr ⟨u_207, (List.forall_mem_cons.mpr ⟨u_208, (List.forall_mem_cons.mpr ⟨u_209, (List.forall_mem_cons.mpr ⟨u_210, (List.forall_mem_cons.mpr ⟨u_211, (fun _ h => absurd h List.not_mem_nil)⟩)⟩)⟩)⟩)⟩)⟩)⟩)⟩)⟩)⟩)⟩)⟩)⟩)⟩)⟩)⟩)⟩)⟩)⟩)⟩)
theorem ein_8 : GoodIn lw_tbl wE_8 := fun w h => ⟨elw_8 w h, good_of_word (List.all_eq_true.mp (by decide +kernel : wE_8.all goodWord = true) w h)⟩
set_option maxRecDepth 20000 in
theorem xin_0 : GoodIn lw_tbl wsX00 := goodIn_r _ [546, 548, 550] (by decide +kernel) (by decide +kernel)
set_option maxRecDepth 20000 in
theorem xin_1 : GoodIn lw_tbl wsX10 := goodIn_r _ [450, 452, 454, 456, 458, 460, 462, 464] (by decide +kernel) (by decide +kernel)
set_option maxRecDepth 20000 in
theorem xin_2 : GoodIn lw_tbl wsX20 := goodIn_r _ [281, 283, 285, 287] (by decide +kernel) (by decide +kernel)
set_option maxRecDepth 20000 in
theorem xin_3 : GoodIn lw_tbl wsX30 := goodIn_r _ [611, 613, 615] (by decide +kernel) (by decide +kernel)
set_option maxRecDepth 20000 in
theorem xin_4 : GoodIn lw_tbl wsX40 := goodIn_r _ [481, 483, 485, 487, 489, 491] (by decide +kernel) (by decide +kernel)
set_option maxRecDepth 20000 in
theorem xin_5 : GoodIn lw_tbl wsX50 := goodIn_r _ [513, 515, 517, 519, 521, 523, 525, 527, 529, 531, 533] (by decide +kernel) (by decide +kernel)
set_option maxRecDepth 20000 in
theorem xin_6 : GoodIn lw_tbl wsX60 := goodIn_r _ [577, 579, 581, 583, 585, 587, 589, 591, 593, 595, 597] (by decide +kernel) (by decide +kernel)
set_option maxRecDepth 20000 in
theorem xin_7 : GoodIn lw_tbl wsX70 := goodIn_r _ [430, 432] (by decide +kernel) (by decide +kernel)
set_option maxRecDepth 20000 in
theorem xin_8 : GoodIn lw_tbl wsX80 := goodIn_r _ [347, 349, 351, 353, 355, 357, 359, 361, 363, 365, 367, 369, 371, 373] (by decide +kernel) (by decide +kernel)
set_option maxRecDepth 20000 in
theorem xin_9 : GoodIn lw_tbl wsX90 := goodIn_r _ [399, 401, 403, 405, 407, 409, 411, 413, 415, 417, 419] (by decide +kernel) (by decide +kernel)
set_option maxRecDepth 20000 in
theorem xin_10 : GoodIn lw_tbl wsX100 := goodIn_r _ [237, 239, 241, 243, 245, 247, 249, 251, 253, 255] (by decide +kernel) (by decide +kernel)
set_option maxRecDepth 20000 in
theorem xin_11 : GoodIn lw_tbl wsX110 := goodIn_r _ [639, 641, 643, 645, 647, 649, 651, 653, 655, 657, 659, 661, 663, 665, 667, 669, 671, 673, 675, 677] (by decide +kernel) (by decide +kernel)
set_option maxRecDepth 20000 in
theorem xin_12 : GoodIn lw_tbl wsX120 := goodIn_r _ [1574, 1576, 1578, 1580, 1582, 1584, 1586, 1588, 1590, 1592, 1594, 1596, 1598, 1600, 1602, 1604, 1606, 1608, 1610, 1612, 1614, 1616, 1618, 1620, 1622, 1624, 1626, 1628, 1630, 1632, 1634, 1636, 1638, 1640, 1642, 1644, 1646, 1648, 1650, 1652, 1654, 1656, 1658, 1660, 1662, 1664, 1666, 1668, 1670, 1672, 1674, 1676, 1678, 1680, 1682, 1684, 1686, 1688, 1690, 1692, 1694, 1696, 1698, 1700, 1702, 1704, 1706, 1708, 1710, 1712, 1714, 1716, 1718, 1720, 1722, 1724, 1726, 1728, 1730, 1732, 1734, 1736, 1738, 1740] (by decide +kernel) (by decide +kernel)
theorem wA_in : GoodIn lw_tbl wA := goodIn_app ein_0 (goodIn_app ein_1 (goodIn_app ein_2 (goodIn_app ein_3 (goodIn_app ein_4 (goodIn_app ein_5 (goodIn_app ein_6 (goodIn_app ein_7 (goodIn_app ein_8 (goodIn_app xin_0 (goodIn_app xin_1 (goodIn_app xin_2 (goodIn_app xin_3 (goodIn_app xin_4 (goodIn_app xin_5 (goodIn_app xin_6 (goodIn_app xin_7 (goodIn_app xin_8 (goodIn_app xin_9 (goodIn_app xin_10 (goodIn_app xin_11 (xin_12)))))))))))))))))))))
theorem wA_good : GoodIn wA wA := fun w h => ⟨h, (wA_in w h).2⟩
theorem gk {k : Cond} (hk : k ∈ wA) : GoodIn wA (k :: wA) := fun w hw => (List.mem_cons.mp hw).elim (fun e => by rw [e]; exact wA_good k hk) (fun h => wA_good w h)
theorem gV {own C : String} {idx : Nat} {y : MethodName} {k : Cond} (h1 : Cond.methodLink own idx y ∈ wA) (h2 : Cond.instanceMethod y ∈ wA) (h3 : Cond.selects C y y ∈ wA) (h4 : Cond.initialized C ∈ wA) (hk : k ∈ wA) : GoodIn wA (wsV own idx C y (k :: wA)) := by
  intro w hw
  rcases List.mem_append.mp hw with h | h
  · simp only [List.mem_cons, List.not_mem_nil, or_false] at h
    rcases h with rfl | rfl | rfl | rfl
    · exact wA_good _ h1
    · exact wA_good _ h2
    · exact wA_good _ h3
    · exact wA_good _ h4
  · exact gk hk w h
theorem gS {own : String} {idx : Nat} {y : MethodName} {k : Cond} (h1 : Cond.methodLink own idx y ∈ wA) (h2 : Cond.static y ∈ wA) (h4 : Cond.initialized y.cls ∈ wA) (hk : k ∈ wA) : GoodIn wA (va_wsS own idx y (k :: wA)) := by
  intro w hw
  rcases List.mem_append.mp hw with h | h
  · simp only [List.mem_cons, List.not_mem_nil, or_false] at h
    rcases h with rfl | rfl | rfl
    · exact wA_good _ h1
    · exact wA_good _ h2
    · exact wA_good _ h4
  · exact gk hk w h
theorem vpi {i : Int32} {n : Nat} (h : (!(decide (i < 0)) && decide (i.toNatClampNeg < n)) = true) : vp_in i n := by
  simp only [Bool.and_eq_true, Bool.not_eq_true', decide_eq_false_iff_not, decide_eq_true_eq] at h
  exact fun q => q.elim h.1 (fun q => absurd h.2 (Nat.not_lt.mpr q))
theorem mdv_yX10_peek : yX10_peek.cls = RX10 ∧ yX10_peek.cls ≠ "java/lang/invoke/MethodHandle" ∧ yX10_peek.cls ≠ "java/lang/invoke/VarHandle" ∧ (parseMethodDescriptor yX10_peek.desc).map (fun d => d.parameters.length) = some 0 := by decide +kernel
theorem mdv_yX10_wrong : yX10_wrong.cls = RX10 ∧ yX10_wrong.cls ≠ "java/lang/invoke/MethodHandle" ∧ yX10_wrong.cls ≠ "java/lang/invoke/VarHandle" ∧ (parseMethodDescriptor yX10_wrong.desc).map (fun d => d.parameters.length) = some 2 := by decide +kernel
theorem mds_yX10_isDigit : yX10_isDigit.cls ≠ "java/lang/invoke/MethodHandle" ∧ yX10_isDigit.cls ≠ "java/lang/invoke/VarHandle" ∧ (parseMethodDescriptor yX10_isDigit.desc).map (fun d => d.parameters.length) = some 1 := by decide +kernel
theorem mdv_yX8_at : yX8_at.cls = RX8 ∧ yX8_at.cls ≠ "java/lang/invoke/MethodHandle" ∧ yX8_at.cls ≠ "java/lang/invoke/VarHandle" ∧ (parseMethodDescriptor yX8_at.desc).map (fun d => d.parameters.length) = some 1 := by decide +kernel
theorem mdv_yX2_wordsOf : yX2_wordsOf.cls = RX2 ∧ yX2_wordsOf.cls ≠ "java/lang/invoke/MethodHandle" ∧ yX2_wordsOf.cls ≠ "java/lang/invoke/VarHandle" ∧ (parseMethodDescriptor yX2_wordsOf.desc).map (fun d => d.parameters.length) = some 1 := by decide +kernel
theorem mdv_yX8_put : yX8_put.cls = RX8 ∧ yX8_put.cls ≠ "java/lang/invoke/MethodHandle" ∧ yX8_put.cls ≠ "java/lang/invoke/VarHandle" ∧ (parseMethodDescriptor yX8_put.desc).map (fun d => d.parameters.length) = some 2 := by decide +kernel
theorem mdv_yX2_sortOfField : yX2_sortOfField.cls = RX2 ∧ yX2_sortOfField.cls ≠ "java/lang/invoke/MethodHandle" ∧ yX2_sortOfField.cls ≠ "java/lang/invoke/VarHandle" ∧ (parseMethodDescriptor yX2_sortOfField.desc).map (fun d => d.parameters.length) = some 2 := by decide +kernel
theorem mdv_yX7_stepsBy : yX7_stepsBy.cls = RX7 ∧ yX7_stepsBy.cls ≠ "java/lang/invoke/MethodHandle" ∧ yX7_stepsBy.cls ≠ "java/lang/invoke/VarHandle" ∧ (parseMethodDescriptor yX7_stepsBy.desc).map (fun d => d.parameters.length) = some 2 := by decide +kernel
theorem mds_yJ7_fill_53178 : yJ7_fill_53178.cls ≠ "java/lang/invoke/MethodHandle" ∧ yJ7_fill_53178.cls ≠ "java/lang/invoke/VarHandle" ∧ (parseMethodDescriptor yJ7_fill_53178.desc).map (fun d => d.parameters.length) = some 2 := by decide +kernel
theorem mdv_yX9_layOut : yX9_layOut.cls = RX9 ∧ yX9_layOut.cls ≠ "java/lang/invoke/MethodHandle" ∧ yX9_layOut.cls ≠ "java/lang/invoke/VarHandle" ∧ (parseMethodDescriptor yX9_layOut.desc).map (fun d => d.parameters.length) = some 1 := by decide +kernel
theorem mds_yX11_pointsTo : yX11_pointsTo.cls ≠ "java/lang/invoke/MethodHandle" ∧ yX11_pointsTo.cls ≠ "java/lang/invoke/VarHandle" ∧ (parseMethodDescriptor yX11_pointsTo.desc).map (fun d => d.parameters.length) = some 1 := by decide +kernel
theorem mdv_yX9_reach : yX9_reach.cls = RX9 ∧ yX9_reach.cls ≠ "java/lang/invoke/MethodHandle" ∧ yX9_reach.cls ≠ "java/lang/invoke/VarHandle" ∧ (parseMethodDescriptor yX9_reach.desc).map (fun d => d.parameters.length) = some 3 := by decide +kernel
theorem mdv_yX9_isLiveWord : yX9_isLiveWord.cls = RX9 ∧ yX9_isLiveWord.cls ≠ "java/lang/invoke/MethodHandle" ∧ yX9_isLiveWord.cls ≠ "java/lang/invoke/VarHandle" ∧ (parseMethodDescriptor yX9_isLiveWord.desc).map (fun d => d.parameters.length) = some 1 := by decide +kernel
theorem mdv_yX9_foundAs : yX9_foundAs.cls = RX9 ∧ yX9_foundAs.cls ≠ "java/lang/invoke/MethodHandle" ∧ yX9_foundAs.cls ≠ "java/lang/invoke/VarHandle" ∧ (parseMethodDescriptor yX9_foundAs.desc).map (fun d => d.parameters.length) = some 1 := by decide +kernel
theorem mdv_yX9_look : yX9_look.cls = RX9 ∧ yX9_look.cls ≠ "java/lang/invoke/MethodHandle" ∧ yX9_look.cls ≠ "java/lang/invoke/VarHandle" ∧ (parseMethodDescriptor yX9_look.desc).map (fun d => d.parameters.length) = some 3 := by decide +kernel
theorem mdv_yX9_shapeOf : yX9_shapeOf.cls = RX9 ∧ yX9_shapeOf.cls ≠ "java/lang/invoke/MethodHandle" ∧ yX9_shapeOf.cls ≠ "java/lang/invoke/VarHandle" ∧ (parseMethodDescriptor yX9_shapeOf.desc).map (fun d => d.parameters.length) = some 1 := by decide +kernel
theorem mds_yJ7_rangeCheck_23922 : yJ7_rangeCheck_23922.cls ≠ "java/lang/invoke/MethodHandle" ∧ yJ7_rangeCheck_23922.cls ≠ "java/lang/invoke/VarHandle" ∧ (parseMethodDescriptor yJ7_rangeCheck_23922.desc).map (fun d => d.parameters.length) = some 3 := by decide +kernel
theorem mds_yJ7_fill_fda19 : yJ7_fill_fda19.cls ≠ "java/lang/invoke/MethodHandle" ∧ yJ7_fill_fda19.cls ≠ "java/lang/invoke/VarHandle" ∧ (parseMethodDescriptor yJ7_fill_fda19.desc).map (fun d => d.parameters.length) = some 4 := by decide +kernel
theorem mds_yX7_thread : yX7_thread.cls ≠ "java/lang/invoke/MethodHandle" ∧ yX7_thread.cls ≠ "java/lang/invoke/VarHandle" ∧ (parseMethodDescriptor yX7_thread.desc).map (fun d => d.parameters.length) = some 3 := by decide +kernel
theorem mdv_yX7_newPlace : yX7_newPlace.cls = RX7 ∧ yX7_newPlace.cls ≠ "java/lang/invoke/MethodHandle" ∧ yX7_newPlace.cls ≠ "java/lang/invoke/VarHandle" ∧ (parseMethodDescriptor yX7_newPlace.desc).map (fun d => d.parameters.length) = some 2 := by decide +kernel
theorem mds_yX7_unthread : yX7_unthread.cls ≠ "java/lang/invoke/MethodHandle" ∧ yX7_unthread.cls ≠ "java/lang/invoke/VarHandle" ∧ (parseMethodDescriptor yX7_unthread.desc).map (fun d => d.parameters.length) = some 3 := by decide +kernel
theorem mdv_yX7_stageOf : yX7_stageOf.cls = RX7 ∧ yX7_stageOf.cls ≠ "java/lang/invoke/MethodHandle" ∧ yX7_stageOf.cls ≠ "java/lang/invoke/VarHandle" ∧ (parseMethodDescriptor yX7_stageOf.desc).map (fun d => d.parameters.length) = some 1 := by decide +kernel
theorem mdv_yX7_blockFromTop : yX7_blockFromTop.cls = RX7 ∧ yX7_blockFromTop.cls ≠ "java/lang/invoke/MethodHandle" ∧ yX7_blockFromTop.cls ≠ "java/lang/invoke/VarHandle" ∧ (parseMethodDescriptor yX7_blockFromTop.desc).map (fun d => d.parameters.length) = some 2 := by decide +kernel
theorem mds_yX11_sortOf : yX11_sortOf.cls ≠ "java/lang/invoke/MethodHandle" ∧ yX11_sortOf.cls ≠ "java/lang/invoke/VarHandle" ∧ (parseMethodDescriptor yX11_sortOf.desc).map (fun d => d.parameters.length) = some 1 := by decide +kernel
theorem mdv_yX3_writeHeld : yX3_writeHeld.cls = RX3 ∧ yX3_writeHeld.cls ≠ "java/lang/invoke/MethodHandle" ∧ yX3_writeHeld.cls ≠ "java/lang/invoke/VarHandle" ∧ (parseMethodDescriptor yX3_writeHeld.desc).map (fun d => d.parameters.length) = some 1 := by decide +kernel
theorem mds_yX3_sumOf : yX3_sumOf.cls ≠ "java/lang/invoke/MethodHandle" ∧ yX3_sumOf.cls ≠ "java/lang/invoke/VarHandle" ∧ (parseMethodDescriptor yX3_sumOf.desc).map (fun d => d.parameters.length) = some 2 := by decide +kernel
