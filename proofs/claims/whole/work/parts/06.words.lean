theorem kf_X10_9 : Cond.fieldLink "FireTaxModel" 9 "FireTaxModel" "scalar" "[I" ∈ uW := uW_5 (i := 31) rfl rfl
theorem kf_X10_95 : Cond.fieldLink "FireTaxModel" 95 "FireTaxModel" "tape" "[B" ∈ uW := uW_5 (i := 69) rfl rfl
theorem kf_X10_160 : Cond.fieldLink "FireTaxModel" 160 "FireTaxModel" "taped" "I" ∈ uW := uW_5 (i := 59) rfl rfl
theorem kf_X10_187 : Cond.fieldLink "FireTaxModel" 187 "FireTaxModel" "fault" "I" ∈ uW := uW_5 (i := 61) rfl rfl
theorem kf_X10_190 : Cond.fieldLink "FireTaxModel" 190 "FireTaxModel" "p" "I" ∈ uW := uW_5 (i := 60) rfl rfl
theorem kk_X10_197 : Cond.constantLong "FireTaxModel" 197 48 ∈ uW := uW_6 (i := 57) rfl rfl
theorem kk_X10_199 : Cond.constantLong "FireTaxModel" 199 57 ∈ uW := uW_6 (i := 58) rfl rfl
theorem kf_J0_38 : Cond.fieldLink "java/lang/String" 38 "java/lang/String" "COMPACT_STRINGS" "Z" ∈ uW := uW_2 (i := 195) rfl rfl
theorem kf_J0_15 : Cond.fieldLink "java/lang/String" 15 "java/lang/String" "coder" "B" ∈ uW := uW_7 (i := 178) rfl rfl
theorem kf_J0_9 : Cond.fieldLink "java/lang/String" 9 "java/lang/String" "value" "[B" ∈ uW := uW_7 (i := 177) rfl rfl
theorem kf_J0_1053 : Cond.fieldLink "java/lang/String" 1053 "jdk/internal/util/Preconditions" "SIOOBE_FORMATTER" "Ljava/util/function/BiFunction;" ∈ uW := uW_2 (i := 211) rfl rfl
theorem kf_X10_99 : Cond.fieldLink "FireTaxModel" 99 "FireTaxModel" "sort" "[I" ∈ uW := uW_5 (i := 70) rfl rfl
theorem kf_X10_217 : Cond.fieldLink "FireTaxModel" 217 "FireTaxModel" "slot" "I" ∈ uW := uW_5 (i := 62) rfl rfl
theorem kf_X10_220 : Cond.fieldLink "FireTaxModel" 220 "FireTaxModel" "entries" "I" ∈ uW := uW_5 (i := 64) rfl rfl
theorem kf_X10_102 : Cond.fieldLink "FireTaxModel" 102 "FireTaxModel" "number" "[I" ∈ uW := uW_5 (i := 71) rfl rfl
theorem kf_X10_223 : Cond.fieldLink "FireTaxModel" 223 "FireTaxModel" "counted" "I" ∈ uW := uW_5 (i := 66) rfl rfl
theorem kf_X10_91 : Cond.fieldLink "FireTaxModel" 91 "FireTaxModel" "words" "I" ∈ uW := uW_5 (i := 68) rfl rfl
theorem kk_X10_234 : Cond.constant "FireTaxModel" 234 99999 ∈ uW := uW_6 (i := 48) rfl rfl
theorem kf_X10_258 : Cond.fieldLink "FireTaxModel" 258 "FireTaxModel" "opened" "I" ∈ uW := uW_5 (i := 67) rfl rfl
theorem kf_X10_117 : Cond.fieldLink "FireTaxModel" 117 "FireTaxModel" "open" "[I" ∈ uW := uW_5 (i := 76) rfl rfl
theorem kf_X10_261 : Cond.fieldLink "FireTaxModel" 261 "FireTaxModel" "deep" "I" ∈ uW := uW_5 (i := 65) rfl rfl
theorem kf_X10_64 : Cond.fieldLink "FireTaxModel" 64 "FireTaxModel" "newScalar" "[I" ∈ uW := uW_5 (i := 49) rfl rfl
theorem kf_X10_79 : Cond.fieldLink "FireTaxModel" 79 "FireTaxModel" "newBeside" "[I" ∈ uW := uW_5 (i := 54) rfl rfl
theorem kf_X10_67 : Cond.fieldLink "FireTaxModel" 67 "FireTaxModel" "newWarmth" "[I" ∈ uW := uW_5 (i := 50) rfl rfl
theorem kf_X10_70 : Cond.fieldLink "FireTaxModel" 70 "FireTaxModel" "newWood" "[I" ∈ uW := uW_5 (i := 51) rfl rfl
theorem kf_X10_73 : Cond.fieldLink "FireTaxModel" 73 "FireTaxModel" "newHeat" "[I" ∈ uW := uW_5 (i := 52) rfl rfl
theorem kf_X10_76 : Cond.fieldLink "FireTaxModel" 76 "FireTaxModel" "newHidden" "[I" ∈ uW := uW_5 (i := 53) rfl rfl
theorem kf_X10_82 : Cond.fieldLink "FireTaxModel" 82 "FireTaxModel" "newStands" "[I" ∈ uW := uW_5 (i := 55) rfl rfl
theorem kf_X10_85 : Cond.fieldLink "FireTaxModel" 85 "FireTaxModel" "newStomach" "[I" ∈ uW := uW_5 (i := 56) rfl rfl
theorem kf_X10_88 : Cond.fieldLink "FireTaxModel" 88 "FireTaxModel" "newSnow" "[I" ∈ uW := uW_5 (i := 57) rfl rfl
theorem kf_X10_52 : Cond.fieldLink "FireTaxModel" 52 "FireTaxModel" "toldWarmth" "[I" ∈ uW := uW_5 (i := 45) rfl rfl
theorem kf_X10_13 : Cond.fieldLink "FireTaxModel" 13 "FireTaxModel" "warmth" "[I" ∈ uW := uW_5 (i := 32) rfl rfl
theorem kf_X10_55 : Cond.fieldLink "FireTaxModel" 55 "FireTaxModel" "toldWood" "[I" ∈ uW := uW_5 (i := 46) rfl rfl
theorem kf_X10_16 : Cond.fieldLink "FireTaxModel" 16 "FireTaxModel" "wood" "[I" ∈ uW := uW_5 (i := 33) rfl rfl
theorem kf_X10_58 : Cond.fieldLink "FireTaxModel" 58 "FireTaxModel" "toldHidden" "[I" ∈ uW := uW_5 (i := 47) rfl rfl
theorem kf_X10_22 : Cond.fieldLink "FireTaxModel" 22 "FireTaxModel" "hidden" "[I" ∈ uW := uW_5 (i := 35) rfl rfl
theorem kf_X10_61 : Cond.fieldLink "FireTaxModel" 61 "FireTaxModel" "toldStands" "[I" ∈ uW := uW_5 (i := 48) rfl rfl
theorem kf_X10_31 : Cond.fieldLink "FireTaxModel" 31 "FireTaxModel" "stands" "[I" ∈ uW := uW_5 (i := 38) rfl rfl
theorem kf_X10_37 : Cond.fieldLink "FireTaxModel" 37 "FireTaxModel" "eaten" "[I" ∈ uW := uW_5 (i := 40) rfl rfl
theorem kf_X10_28 : Cond.fieldLink "FireTaxModel" 28 "FireTaxModel" "called" "[I" ∈ uW := uW_5 (i := 37) rfl rfl
theorem kf_X10_19 : Cond.fieldLink "FireTaxModel" 19 "FireTaxModel" "heat" "[I" ∈ uW := uW_5 (i := 34) rfl rfl
theorem kf_X10_25 : Cond.fieldLink "FireTaxModel" 25 "FireTaxModel" "beside" "[I" ∈ uW := uW_5 (i := 36) rfl rfl
theorem kf_X10_34 : Cond.fieldLink "FireTaxModel" 34 "FireTaxModel" "stomach" "[I" ∈ uW := uW_5 (i := 39) rfl rfl
theorem kf_X10_40 : Cond.fieldLink "FireTaxModel" 40 "FireTaxModel" "snow" "[I" ∈ uW := uW_5 (i := 41) rfl rfl
theorem kf_X10_327 : Cond.fieldLink "FireTaxModel" 327 "FireTaxModel" "isThere" "Z" ∈ uW := uW_5 (i := 58) rfl rfl
theorem kf_X10_334 : Cond.fieldLink "FireTaxModel" 334 "FireTaxModel" "pastMany" "I" ∈ uW := uW_5 (i := 82) rfl rfl
theorem kf_X10_108 : Cond.fieldLink "FireTaxModel" 108 "FireTaxModel" "sumAt" "[I" ∈ uW := uW_5 (i := 73) rfl rfl
theorem kf_X10_111 : Cond.fieldLink "FireTaxModel" 111 "FireTaxModel" "testAt" "[I" ∈ uW := uW_5 (i := 74) rfl rfl
theorem kf_X10_114 : Cond.fieldLink "FireTaxModel" 114 "FireTaxModel" "endAt" "[I" ∈ uW := uW_5 (i := 75) rfl rfl
theorem kf_X10_347 : Cond.fieldLink "FireTaxModel" 347 "FireTaxModel" "rules" "I" ∈ uW := uW_5 (i := 63) rfl rfl
theorem kf_X10_105 : Cond.fieldLink "FireTaxModel" 105 "FireTaxModel" "clauses" "[I" ∈ uW := uW_5 (i := 72) rfl rfl
theorem kk_X10_353 : Cond.constantLong "FireTaxModel" 353 (-1) ∈ uW := uW_6 (i := 162) rfl rfl
theorem kf_X10_124 : Cond.fieldLink "FireTaxModel" 124 "FireTaxModel" "stack" "[J" ∈ uW := uW_5 (i := 78) rfl rfl
theorem kf_X10_120 : Cond.fieldLink "FireTaxModel" 120 "FireTaxModel" "asked" "[J" ∈ uW := uW_5 (i := 77) rfl rfl
theorem kk_X10_383 : Cond.constantLong "FireTaxModel" 383 99 ∈ uW := uW_6 (i := 230) rfl rfl
theorem kf_X10_399 : Cond.fieldLink "FireTaxModel" 399 "FireTaxModel" "isSnowDrawn" "Z" ∈ uW := uW_5 (i := 79) rfl rfl
theorem kf_X10_414 : Cond.fieldLink "FireTaxModel" 414 "FireTaxModel" "takesBack" "Z" ∈ uW := uW_5 (i := 84) rfl rfl
theorem kf_X10_127 : Cond.fieldLink "FireTaxModel" 127 "FireTaxModel" "past" "[I" ∈ uW := uW_5 (i := 80) rfl rfl
theorem kf_X10_417 : Cond.fieldLink "FireTaxModel" 417 "FireTaxModel" "pastAt" "I" ∈ uW := uW_5 (i := 83) rfl rfl
theorem kk_X10_434 : Cond.constantLong "FireTaxModel" 434 9 ∈ uW := uW_7 (i := 21) rfl rfl
theorem kf_X10_503 : Cond.fieldLink "FireTaxModel" 503 "FireTaxModel" "goesBack" "Z" ∈ uW := uW_5 (i := 92) rfl rfl
theorem kf_X10_139 : Cond.fieldLink "FireTaxModel" 139 "FireTaxModel" "images" "[I" ∈ uW := uW_5 (i := 88) rfl rfl
theorem kf_X10_506 : Cond.fieldLink "FireTaxModel" 506 "FireTaxModel" "imageAt" "I" ∈ uW := uW_5 (i := 91) rfl rfl
theorem kf_X10_130 : Cond.fieldLink "FireTaxModel" 130 "FireTaxModel" "ring" "[I" ∈ uW := uW_5 (i := 81) rfl rfl
theorem kf_X10_43 : Cond.fieldLink "FireTaxModel" 43 "FireTaxModel" "bookNight" "[I" ∈ uW := uW_5 (i := 42) rfl rfl
theorem kf_X10_46 : Cond.fieldLink "FireTaxModel" 46 "FireTaxModel" "bookHouse" "[I" ∈ uW := uW_5 (i := 43) rfl rfl
theorem kf_X10_49 : Cond.fieldLink "FireTaxModel" 49 "FireTaxModel" "bookWarmth" "[I" ∈ uW := uW_5 (i := 44) rfl rfl
theorem kk_X10_446 : Cond.constantLong "FireTaxModel" 446 100 ∈ uW := uW_7 (i := 49) rfl rfl
theorem kf_X10_457 : Cond.fieldLink "FireTaxModel" 457 "FireTaxModel" "nobodyMore" "I" ∈ uW := uW_5 (i := 85) rfl rfl
theorem kk_X10_460 : Cond.constantLong "FireTaxModel" 460 4 ∈ uW := uW_7 (i := 78) rfl rfl
theorem kk_X10_462 : Cond.constantLong "FireTaxModel" 462 3 ∈ uW := uW_7 (i := 79) rfl rfl
theorem kk_X10_471 : Cond.constantLong "FireTaxModel" 471 60 ∈ uW := uW_7 (i := 96) rfl rfl
theorem kk_X10_473 : Cond.constantLong "FireTaxModel" 473 9999 ∈ uW := uW_7 (i := 109) rfl rfl
theorem kk_X10_481 : Cond.constantLong "FireTaxModel" 481 400 ∈ uW := uW_7 (i := 126) rfl rfl
theorem kk_X10_483 : Cond.constantLong "FireTaxModel" 483 999 ∈ uW := uW_7 (i := 131) rfl rfl
theorem kf_X10_133 : Cond.fieldLink "FireTaxModel" 133 "FireTaxModel" "shown" "[I" ∈ uW := uW_5 (i := 86) rfl rfl
theorem kf_X10_136 : Cond.fieldLink "FireTaxModel" 136 "FireTaxModel" "shows" "[I" ∈ uW := uW_5 (i := 87) rfl rfl
theorem kk_X10_491 : Cond.constantLong "FireTaxModel" 491 1103515245 ∈ uW := uW_7 (i := 161) rfl rfl
theorem kk_X10_493 : Cond.constantLong "FireTaxModel" 493 12345 ∈ uW := uW_7 (i := 162) rfl rfl
theorem kk_X10_495 : Cond.constantLong "FireTaxModel" 495 2147483648 ∈ uW := uW_7 (i := 163) rfl rfl
theorem kk_X10_497 : Cond.constant "FireTaxModel" 497 65536 ∈ uW := uW_7 (i := 164) rfl rfl
theorem kk_X10_498 : Cond.constantLong "FireTaxModel" 498 10 ∈ uW := uW_7 (i := 156) rfl rfl
theorem kf_X10_142 : Cond.fieldLink "FireTaxModel" 142 "FireTaxModel" "isMade" "[Z" ∈ uW := uW_5 (i := 89) rfl rfl
theorem kf_X10_146 : Cond.fieldLink "FireTaxModel" 146 "FireTaxModel" "wasThere" "[Z" ∈ uW := uW_5 (i := 90) rfl rfl
theorem kf_X1_9 : Cond.fieldLink "FireTax$Land" 9 "FireTax$Land" "told" "Z" ∈ uW := uW_1 (i := 78) rfl rfl
theorem kf_X1_15 : Cond.fieldLink "FireTax$Land" 15 "FireTax$Land" "tenth" "I" ∈ uW := uW_1 (i := 81) rfl rfl
theorem kf_X1_19 : Cond.fieldLink "FireTax$Land" 19 "FireTax$Land" "loss" "I" ∈ uW := uW_1 (i := 85) rfl rfl
theorem kf_X1_22 : Cond.fieldLink "FireTax$Land" 22 "FireTax$Land" "freeze" "I" ∈ uW := uW_1 (i := 89) rfl rfl
theorem kf_X1_25 : Cond.fieldLink "FireTax$Land" 25 "FireTax$Land" "houses" "I" ∈ uW := uW_1 (i := 93) rfl rfl
theorem kf_X1_28 : Cond.fieldLink "FireTax$Land" 28 "FireTax$Land" "lanes" "I" ∈ uW := uW_1 (i := 98) rfl rfl
theorem kf_X1_31 : Cond.fieldLink "FireTax$Land" 31 "FireTax$Land" "officers" "I" ∈ uW := uW_1 (i := 101) rfl rfl
theorem kf_X1_34 : Cond.fieldLink "FireTax$Land" 34 "FireTax$Land" "snows" "I" ∈ uW := uW_1 (i := 105) rfl rfl
theorem kf_X1_50 : Cond.fieldLink "FireTax$Land" 50 "FireTax$Land" "begin" "[I" ∈ uW := uW_1 (i := 117) rfl rfl
theorem kf_X1_41 : Cond.fieldLink "FireTax$Land" 41 "FireTax$Land" "beside" "[I" ∈ uW := uW_1 (i := 110) rfl rfl
theorem kf_X0_26 : Cond.fieldLink "FireTax$DuchyReader" 26 "FireTax$DuchyReader" "tokens" "LFireTax$Tokens;" ∈ uW := uW_1 (i := 148) rfl rfl
theorem kf_X0_114 : Cond.fieldLink "FireTax$DuchyReader" 114 "FireTax$Tokens" "place" "I" ∈ uW := uW_1 (i := 43) rfl rfl
theorem kf_X0_15 : Cond.fieldLink "FireTax$DuchyReader" 15 "FireTax$DuchyReader" "fault" "I" ∈ uW := uW_1 (i := 150) rfl rfl
theorem kf_X0_22 : Cond.fieldLink "FireTax$DuchyReader" 22 "FireTax$DuchyReader" "draft" "LFireTax$Land;" ∈ uW := uW_1 (i := 151) rfl rfl
theorem kf_X0_70 : Cond.fieldLink "FireTax$DuchyReader" 70 "FireTax$Land" "houses" "I" ∈ uW := uW_1 (i := 96) rfl rfl
theorem kf_X0_73 : Cond.fieldLink "FireTax$DuchyReader" 73 "FireTax$Land" "lanes" "I" ∈ uW := uW_1 (i := 99) rfl rfl
theorem kf_X0_76 : Cond.fieldLink "FireTax$DuchyReader" 76 "FireTax$Land" "officers" "I" ∈ uW := uW_1 (i := 103) rfl rfl
theorem kf_X0_79 : Cond.fieldLink "FireTax$DuchyReader" 79 "FireTax$Land" "snows" "I" ∈ uW := uW_1 (i := 106) rfl rfl
theorem kf_X7_25 : Cond.fieldLink "FireTax$Tokens" 25 "FireTax$Tokens" "index" "I" ∈ uW := uW_1 (i := 38) rfl rfl
theorem kf_X7_21 : Cond.fieldLink "FireTax$Tokens" 21 "FireTax$Tokens" "size" "I" ∈ uW := uW_1 (i := 37) rfl rfl
theorem kf_X7_9 : Cond.fieldLink "FireTax$Tokens" 9 "FireTax$Tokens" "kinds" "[I" ∈ uW := uW_1 (i := 34) rfl rfl
theorem kf_X7_28 : Cond.fieldLink "FireTax$Tokens" 28 "FireTax$Tokens" "kind" "I" ∈ uW := uW_1 (i := 39) rfl rfl
theorem kf_X7_15 : Cond.fieldLink "FireTax$Tokens" 15 "FireTax$Tokens" "places" "[I" ∈ uW := uW_1 (i := 35) rfl rfl
theorem kf_X7_31 : Cond.fieldLink "FireTax$Tokens" 31 "FireTax$Tokens" "place" "I" ∈ uW := uW_1 (i := 42) rfl rfl
theorem kf_X7_18 : Cond.fieldLink "FireTax$Tokens" 18 "FireTax$Tokens" "numbers" "[I" ∈ uW := uW_1 (i := 36) rfl rfl
theorem kf_X7_34 : Cond.fieldLink "FireTax$Tokens" 34 "FireTax$Tokens" "number" "I" ∈ uW := uW_1 (i := 45) rfl rfl
theorem kf_X0_41 : Cond.fieldLink "FireTax$DuchyReader" 41 "FireTax$Tokens" "kind" "I" ∈ uW := uW_1 (i := 40) rfl rfl
theorem kf_X0_82 : Cond.fieldLink "FireTax$DuchyReader" 82 "FireTax$Tokens" "number" "I" ∈ uW := uW_1 (i := 46) rfl rfl
theorem kf_X0_85 : Cond.fieldLink "FireTax$DuchyReader" 85 "FireTax$DuchyReader" "MOST" "[I" ∈ uW := uW_3 (i := 103) rfl rfl
theorem kf_X0_11 : Cond.fieldLink "FireTax$DuchyReader" 11 "FireTax$DuchyReader" "values" "[I" ∈ uW := uW_1 (i := 149) rfl rfl
theorem kf_X1_37 : Cond.fieldLink "FireTax$Land" 37 "FireTax$Land" "heat" "[I" ∈ uW := uW_1 (i := 107) rfl rfl
theorem kf_X1_44 : Cond.fieldLink "FireTax$Land" 44 "FireTax$Land" "stomach" "[I" ∈ uW := uW_1 (i := 113) rfl rfl
theorem kf_X1_47 : Cond.fieldLink "FireTax$Land" 47 "FireTax$Land" "snow" "[I" ∈ uW := uW_1 (i := 116) rfl rfl
theorem kf_X0_88 : Cond.fieldLink "FireTax$DuchyReader" 88 "FireTax$Land" "tenth" "I" ∈ uW := uW_1 (i := 83) rfl rfl
theorem kf_X0_91 : Cond.fieldLink "FireTax$DuchyReader" 91 "FireTax$Land" "loss" "I" ∈ uW := uW_1 (i := 86) rfl rfl
theorem kf_X0_94 : Cond.fieldLink "FireTax$DuchyReader" 94 "FireTax$Land" "freeze" "I" ∈ uW := uW_1 (i := 90) rfl rfl
theorem kf_X0_105 : Cond.fieldLink "FireTax$DuchyReader" 105 "FireTax$Land" "begin" "[I" ∈ uW := uW_1 (i := 120) rfl rfl
theorem kf_X0_59 : Cond.fieldLink "FireTax$DuchyReader" 59 "FireTax$DuchyReader" "NUMBERS" "[I" ∈ uW := uW_3 (i := 97) rfl rfl
theorem kf_X0_33 : Cond.fieldLink "FireTax$DuchyReader" 33 "FireTax$Land" "told" "Z" ∈ uW := uW_1 (i := 79) rfl rfl
theorem km_X1_53 : Cond.methodLink "FireTax$Land" 53 ⟨"java/lang/System", "arraycopy", "(Ljava/lang/Object;ILjava/lang/Object;II)V"⟩ ∈ uW := uW_3 (i := 133) rfl rfl
theorem kn_acopy : Cond.native ⟨"java/lang/System", "arraycopy", "(Ljava/lang/Object;ILjava/lang/Object;II)V"⟩ ∈ uW := uW_3 (i := 135) rfl rfl
theorem ks_acopy : Cond.static ⟨"java/lang/System", "arraycopy", "(Ljava/lang/Object;ILjava/lang/Object;II)V"⟩ ∈ uW := uW_3 (i := 134) rfl rfl
theorem ki_System : Cond.initialized "java/lang/System" ∈ uW := uW_1 (i := 18) rfl rfl
theorem kf_X2_12 : Cond.fieldLink "FireTax$Page" 12 "FireTax$Page" "land" "LFireTax$Land;" ∈ uW := uW_1 (i := 220) rfl rfl
theorem kf_X2_51 : Cond.fieldLink "FireTax$Page" 51 "FireTax$Land" "begin" "[I" ∈ uW := uW_1 (i := 118) rfl rfl
theorem kf_X2_18 : Cond.fieldLink "FireTax$Page" 18 "FireTax$Page" "now" "[I" ∈ uW := uW_1 (i := 223) rfl rfl
theorem km_X2_54 : Cond.methodLink "FireTax$Page" 54 ⟨"java/lang/System", "arraycopy", "(Ljava/lang/Object;ILjava/lang/Object;II)V"⟩ ∈ uW := uW_3 (i := 136) rfl rfl
theorem kf_X2_25 : Cond.fieldLink "FireTax$Page" 25 "FireTax$Page" "pastCount" "I" ∈ uW := uW_1 (i := 226) rfl rfl
theorem kf_X2_38 : Cond.fieldLink "FireTax$Page" 38 "FireTax$Page" "bookCount" "I" ∈ uW := uW_1 (i := 234) rfl rfl
theorem kf_X2_22 : Cond.fieldLink "FireTax$Page" 22 "FireTax$Page" "past" "[I" ∈ uW := uW_1 (i := 225) rfl rfl
theorem kf_X2_29 : Cond.fieldLink "FireTax$Page" 29 "FireTax$Page" "bookNight" "[I" ∈ uW := uW_1 (i := 228) rfl rfl
theorem kf_X2_32 : Cond.fieldLink "FireTax$Page" 32 "FireTax$Page" "bookHouse" "[I" ∈ uW := uW_1 (i := 230) rfl rfl
theorem kf_X2_35 : Cond.fieldLink "FireTax$Page" 35 "FireTax$Page" "bookWarmth" "[I" ∈ uW := uW_1 (i := 232) rfl rfl
theorem kf_X2_41 : Cond.fieldLink "FireTax$Page" 41 "FireTax$Page" "inForce" "I" ∈ uW := uW_1 (i := 237) rfl rfl
theorem kf_X2_44 : Cond.fieldLink "FireTax$Page" 44 "FireTax$Page" "x" "I" ∈ uW := uW_1 (i := 239) rfl rfl
theorem kf_X8_15 : Cond.fieldLink "FireTax$Walk" 15 "FireTax$Walk" "law" "LFireTax$Rule;" ∈ uW := uW_2 (i := 31) rfl rfl
theorem kf_X8_23 : Cond.fieldLink "FireTax$Walk" 23 "FireTax$Walk" "land" "LFireTax$Land;" ∈ uW := uW_2 (i := 29) rfl rfl
theorem kf_X8_27 : Cond.fieldLink "FireTax$Walk" 27 "FireTax$Land" "tenth" "I" ∈ uW := uW_1 (i := 82) rfl rfl
theorem kf_X8_19 : Cond.fieldLink "FireTax$Walk" 19 "FireTax$Walk" "tenth" "I" ∈ uW := uW_2 (i := 32) rfl rfl
theorem kf_X3_16 : Cond.fieldLink "FireTax$Rounds" 16 "FireTax$Rounds" "sums" "[I" ∈ uW := uW_2 (i := 54) rfl rfl
theorem kf_X3_36 : Cond.fieldLink "FireTax$Rounds" 36 "FireTax$Rounds" "least" "I" ∈ uW := uW_2 (i := 62) rfl rfl
theorem km_X3_86 : Cond.methodLink "FireTax$Rounds" 86 ⟨"java/lang/Math", "min", "(II)I"⟩ ∈ uW := uW_4 (i := 129) rfl rfl
theorem ks_Math_min : Cond.static ⟨"java/lang/Math", "min", "(II)I"⟩ ∈ uW := uW_3 (i := 29) rfl rfl
theorem ki_Math : Cond.initialized "java/lang/Math" ∈ uW := uW_1 (i := 16) rfl rfl
theorem kd_Math_min : Cond.code ⟨"java/lang/Math", "min", "(II)I"⟩ prog_15_method_69_code 2 (some .int) ∈ uW := uW_3 (i := 30) rfl rfl
theorem kf_X3_39 : Cond.fieldLink "FireTax$Rounds" 39 "FireTax$Rounds" "most" "I" ∈ uW := uW_2 (i := 64) rfl rfl
theorem km_X3_92 : Cond.methodLink "FireTax$Rounds" 92 ⟨"java/lang/Math", "max", "(II)I"⟩ ∈ uW := uW_4 (i := 130) rfl rfl
theorem ks_Math_max : Cond.static ⟨"java/lang/Math", "max", "(II)I"⟩ ∈ uW := uW_3 (i := 26) rfl rfl
theorem kd_Math_max : Cond.code ⟨"java/lang/Math", "max", "(II)I"⟩ prog_15_method_65_code 2 (some .int) ∈ uW := uW_3 (i := 27) rfl rfl
theorem kf_X3_11 : Cond.fieldLink "FireTax$Rounds" 11 "FireTax$Rounds" "rows" "[[I" ∈ uW := uW_2 (i := 53) rfl rfl
theorem kf_X3_33 : Cond.fieldLink "FireTax$Rounds" 33 "FireTax$Rounds" "bestSum" "I" ∈ uW := uW_2 (i := 60) rfl rfl
theorem kf_X3_20 : Cond.fieldLink "FireTax$Rounds" 20 "FireTax$Rounds" "path" "[I" ∈ uW := uW_2 (i := 55) rfl rfl
theorem kf_X3_30 : Cond.fieldLink "FireTax$Rounds" 30 "FireTax$Rounds" "best" "[I" ∈ uW := uW_2 (i := 58) rfl rfl
theorem km_X3_50 : Cond.methodLink "FireTax$Rounds" 50 ⟨"java/lang/System", "arraycopy", "(Ljava/lang/Object;ILjava/lang/Object;II)V"⟩ ∈ uW := uW_4 (i := 119) rfl rfl
theorem kf_X8_62 : Cond.fieldLink "FireTax$Walk" 62 "FireTax$Land" "beside" "[I" ∈ uW := uW_1 (i := 111) rfl rfl
theorem kf_X8_69 : Cond.fieldLink "FireTax$Walk" 69 "FireTax$Land" "stomach" "[I" ∈ uW := uW_1 (i := 114) rfl rfl
theorem km_X8_75 : Cond.methodLink "FireTax$Walk" 75 ⟨"java/lang/Math", "min", "(II)I"⟩ ∈ uW := uW_4 (i := 27) rfl rfl
theorem kf_X8_96 : Cond.fieldLink "FireTax$Walk" 96 "FireTax$Land" "loss" "I" ∈ uW := uW_1 (i := 87) rfl rfl
theorem kf_X8_45 : Cond.fieldLink "FireTax$Walk" 45 "FireTax$Land" "houses" "I" ∈ uW := uW_1 (i := 95) rfl rfl
theorem km_X8_99 : Cond.methodLink "FireTax$Walk" 99 ⟨"java/lang/Math", "max", "(II)I"⟩ ∈ uW := uW_4 (i := 58) rfl rfl
theorem kf_X8_102 : Cond.fieldLink "FireTax$Walk" 102 "FireTax$Land" "freeze" "I" ∈ uW := uW_1 (i := 91) rfl rfl
theorem kf_X8_81 : Cond.fieldLink "FireTax$Walk" 81 "FireTax$Land" "heat" "[I" ∈ uW := uW_1 (i := 109) rfl rfl
theorem kf_X3_23 : Cond.fieldLink "FireTax$Rounds" 23 "FireTax$Rounds" "nights" "I" ∈ uW := uW_2 (i := 56) rfl rfl
theorem kf_X3_42 : Cond.fieldLink "FireTax$Rounds" 42 "FireTax$Rounds" "land" "LFireTax$Land;" ∈ uW := uW_2 (i := 51) rfl rfl
theorem kf_X3_69 : Cond.fieldLink "FireTax$Rounds" 69 "FireTax$Land" "houses" "I" ∈ uW := uW_1 (i := 94) rfl rfl
theorem kf_X3_46 : Cond.fieldLink "FireTax$Rounds" 46 "FireTax$Rounds" "walk" "LFireTax$Walk;" ∈ uW := uW_2 (i := 52) rfl rfl
theorem kf_X3_27 : Cond.fieldLink "FireTax$Rounds" 27 "FireTax$Rounds" "caller" "I" ∈ uW := uW_2 (i := 57) rfl rfl
theorem kf_X4_15 : Cond.fieldLink "FireTax$Rule" 15 "FireTax$Rule" "length" "I" ∈ uW := uW_1 (i := 175) rfl rfl
theorem kf_X4_28 : Cond.fieldLink "FireTax$Rule" 28 "FireTax$Rule" "clauses" "I" ∈ uW := uW_1 (i := 179) rfl rfl
theorem kf_X4_9 : Cond.fieldLink "FireTax$Rule" 9 "FireTax$Rule" "code" "[I" ∈ uW := uW_1 (i := 174) rfl rfl
theorem kf_X4_19 : Cond.fieldLink "FireTax$Rule" 19 "FireTax$Rule" "sumFrom" "[I" ∈ uW := uW_1 (i := 176) rfl rfl
theorem kf_X4_25 : Cond.fieldLink "FireTax$Rule" 25 "FireTax$Rule" "behind" "[I" ∈ uW := uW_1 (i := 178) rfl rfl
theorem kf_X4_22 : Cond.fieldLink "FireTax$Rule" 22 "FireTax$Rule" "testFrom" "[I" ∈ uW := uW_1 (i := 177) rfl rfl
theorem kf_X4_31 : Cond.fieldLink "FireTax$Rule" 31 "FireTax$Rule" "stack" "[J" ∈ uW := uW_1 (i := 180) rfl rfl
theorem kf_X5_25 : Cond.fieldLink "FireTax$RuleReader" 25 "FireTax$RuleReader" "tokens" "LFireTax$Tokens;" ∈ uW := uW_1 (i := 197) rfl rfl
theorem kf_X5_83 : Cond.fieldLink "FireTax$RuleReader" 83 "FireTax$Tokens" "place" "I" ∈ uW := uW_1 (i := 44) rfl rfl
theorem kf_X5_22 : Cond.fieldLink "FireTax$RuleReader" 22 "FireTax$RuleReader" "fault" "I" ∈ uW := uW_1 (i := 200) rfl rfl
theorem kf_X5_43 : Cond.fieldLink "FireTax$RuleReader" 43 "FireTax$Tokens" "kind" "I" ∈ uW := uW_1 (i := 41) rfl rfl
theorem kf_X5_18 : Cond.fieldLink "FireTax$RuleReader" 18 "FireTax$RuleReader" "parts" "I" ∈ uW := uW_1 (i := 199) rfl rfl
theorem kf_X5_12 : Cond.fieldLink "FireTax$RuleReader" 12 "FireTax$RuleReader" "draft" "LFireTax$Rule;" ∈ uW := uW_1 (i := 198) rfl rfl
theorem kf_X5_80 : Cond.fieldLink "FireTax$RuleReader" 80 "FireTax$Tokens" "number" "I" ∈ uW := uW_1 (i := 47) rfl rfl
theorem kf_X6_18 : Cond.fieldLink "FireTax$Suspects" 18 "FireTax$Suspects" "size" "I" ∈ uW := uW_2 (i := 99) rfl rfl
theorem kf_X6_22 : Cond.fieldLink "FireTax$Suspects" 22 "FireTax$Suspects" "page" "LFireTax$Page;" ∈ uW := uW_2 (i := 95) rfl rfl
theorem kf_X6_48 : Cond.fieldLink "FireTax$Suspects" 48 "FireTax$Page" "land" "LFireTax$Land;" ∈ uW := uW_1 (i := 222) rfl rfl
theorem kf_X6_54 : Cond.fieldLink "FireTax$Suspects" 54 "FireTax$Land" "begin" "[I" ∈ uW := uW_1 (i := 119) rfl rfl
theorem kf_X6_9 : Cond.fieldLink "FireTax$Suspects" 9 "FireTax$Suspects" "row" "[I" ∈ uW := uW_2 (i := 97) rfl rfl
theorem km_X6_58 : Cond.methodLink "FireTax$Suspects" 58 ⟨"java/lang/System", "arraycopy", "(Ljava/lang/Object;ILjava/lang/Object;II)V"⟩ ∈ uW := uW_4 (i := 204) rfl rfl
theorem kf_X6_26 : Cond.fieldLink "FireTax$Suspects" 26 "FireTax$Suspects" "walk" "LFireTax$Walk;" ∈ uW := uW_2 (i := 96) rfl rfl
theorem kf_X6_67 : Cond.fieldLink "FireTax$Suspects" 67 "FireTax$Page" "bookCount" "I" ∈ uW := uW_1 (i := 235) rfl rfl
theorem kf_X6_70 : Cond.fieldLink "FireTax$Suspects" 70 "FireTax$Page" "bookNight" "[I" ∈ uW := uW_1 (i := 229) rfl rfl
theorem km_X6_73 : Cond.methodLink "FireTax$Suspects" 73 ⟨"java/lang/Math", "max", "(II)I"⟩ ∈ uW := uW_4 (i := 210) rfl rfl
theorem kk_J6_265 : Cond.constant "java/lang/Integer" 265 1431655765 ∈ uW := uW_4 (i := 31) rfl rfl
theorem kk_J6_266 : Cond.constant "java/lang/Integer" 266 858993459 ∈ uW := uW_4 (i := 32) rfl rfl
theorem kk_J6_267 : Cond.constant "java/lang/Integer" 267 252645135 ∈ uW := uW_4 (i := 33) rfl rfl
theorem kf_X8_9 : Cond.fieldLink "FireTax$Walk" 9 "FireTax$Walk" "words" "[J" ∈ uW := uW_2 (i := 30) rfl rfl
theorem kk_X8_90 : Cond.constantLong "FireTax$Walk" 90 99 ∈ uW := uW_4 (i := 34) rfl rfl
theorem kf_X8_30 : Cond.fieldLink "FireTax$Walk" 30 "FireTax$Land" "officers" "I" ∈ uW := uW_1 (i := 102) rfl rfl
theorem kf_X6_79 : Cond.fieldLink "FireTax$Suspects" 79 "FireTax$Page" "bookHouse" "[I" ∈ uW := uW_1 (i := 231) rfl rfl
theorem kf_X6_82 : Cond.fieldLink "FireTax$Suspects" 82 "FireTax$Page" "bookWarmth" "[I" ∈ uW := uW_1 (i := 233) rfl rfl
theorem kf_X6_15 : Cond.fieldLink "FireTax$Suspects" 15 "FireTax$Suspects" "warmths" "[I" ∈ uW := uW_2 (i := 98) rfl rfl
theorem km_J1_92 : Cond.methodLink "java/lang/StringLatin1" 92 ⟨"java/lang/Math", "max", "(II)I"⟩ ∈ uW := uW_3 (i := 25) rfl rfl
theorem km_J1_38 : Cond.methodLink "java/lang/StringLatin1" 38 ⟨"java/lang/Math", "min", "(II)I"⟩ ∈ uW := uW_3 (i := 28) rfl rfl
theorem kf_X9_13 : Cond.fieldLink "FireTax" 13 "FireTax" "tapeLength" "I" ∈ uW := uW_2 (i := 113) rfl rfl
theorem kf_X9_9 : Cond.fieldLink "FireTax" 9 "FireTax" "tape" "[I" ∈ uW := uW_2 (i := 112) rfl rfl
theorem kf_X9_20 : Cond.fieldLink "FireTax" 20 "FireTax" "tokens" "LFireTax$Tokens;" ∈ uW := uW_2 (i := 114) rfl rfl
theorem kf_X9_29 : Cond.fieldLink "FireTax" 29 "FireTax" "duchyReader" "LFireTax$DuchyReader;" ∈ uW := uW_2 (i := 115) rfl rfl
theorem kf_X9_52 : Cond.fieldLink "FireTax" 52 "FireTax" "page" "LFireTax$Page;" ∈ uW := uW_2 (i := 119) rfl rfl
theorem kf_X9_105 : Cond.fieldLink "FireTax" 105 "FireTax$DuchyReader" "draft" "LFireTax$Land;" ∈ uW := uW_1 (i := 152) rfl rfl
theorem kf_X9_62 : Cond.fieldLink "FireTax" 62 "FireTax$Page" "land" "LFireTax$Land;" ∈ uW := uW_1 (i := 221) rfl rfl
theorem kf_X9_111 : Cond.fieldLink "FireTax" 111 "FireTax$Land" "houses" "I" ∈ uW := uW_1 (i := 97) rfl rfl
theorem kf_X9_46 : Cond.fieldLink "FireTax" 46 "FireTax" "ruleCount" "I" ∈ uW := uW_2 (i := 118) rfl rfl
theorem kf_X9_121 : Cond.fieldLink "FireTax" 121 "FireTax$Page" "inForce" "I" ∈ uW := uW_1 (i := 238) rfl rfl
theorem kf_X9_128 : Cond.fieldLink "FireTax" 128 "FireTax$Page" "now" "[I" ∈ uW := uW_1 (i := 224) rfl rfl
theorem kf_X9_131 : Cond.fieldLink "FireTax" 131 "FireTax$Land" "heat" "[I" ∈ uW := uW_1 (i := 108) rfl rfl
theorem kf_X9_137 : Cond.fieldLink "FireTax" 137 "FireTax$Land" "beside" "[I" ∈ uW := uW_1 (i := 112) rfl rfl
theorem kf_X9_231 : Cond.fieldLink "FireTax" 231 "FireTax$Land" "officers" "I" ∈ uW := uW_1 (i := 104) rfl rfl
theorem kf_X9_143 : Cond.fieldLink "FireTax" 143 "FireTax$Land" "stomach" "[I" ∈ uW := uW_1 (i := 115) rfl rfl
theorem kf_X9_42 : Cond.fieldLink "FireTax" 42 "FireTax" "rules" "[LFireTax$Rule;" ∈ uW := uW_2 (i := 117) rfl rfl
theorem kf_X9_146 : Cond.fieldLink "FireTax" 146 "FireTax$Land" "told" "Z" ∈ uW := uW_1 (i := 80) rfl rfl
theorem kf_X9_69 : Cond.fieldLink "FireTax" 69 "FireTax" "walk" "LFireTax$Walk;" ∈ uW := uW_2 (i := 121) rfl rfl
theorem km_X9_180 : Cond.methodLink "FireTax" 180 ⟨"java/lang/Math", "min", "(II)I"⟩ ∈ uW := uW_4 (i := 74) rfl rfl
theorem kf_X9_173 : Cond.fieldLink "FireTax" 173 "FireTax$Land" "freeze" "I" ∈ uW := uW_1 (i := 92) rfl rfl
theorem kk_X9_186 : Cond.constant "FireTax" 186 99999 ∈ uW := uW_4 (i := 88) rfl rfl
theorem kf_X9_191 : Cond.fieldLink "FireTax" 191 "FireTax$Page" "pastCount" "I" ∈ uW := uW_1 (i := 227) rfl rfl
theorem kf_X9_91 : Cond.fieldLink "FireTax" 91 "FireTax" "trial" "[I" ∈ uW := uW_2 (i := 124) rfl rfl
theorem km_X9_292 : Cond.methodLink "FireTax" 292 ⟨"java/lang/System", "arraycopy", "(Ljava/lang/Object;ILjava/lang/Object;II)V"⟩ ∈ uW := uW_4 (i := 105) rfl rfl
theorem kf_X9_78 : Cond.fieldLink "FireTax" 78 "FireTax" "rounds" "LFireTax$Rounds;" ∈ uW := uW_2 (i := 122) rfl rfl
theorem kf_X9_207 : Cond.fieldLink "FireTax" 207 "FireTax$Rounds" "bestSum" "I" ∈ uW := uW_2 (i := 61) rfl rfl
theorem kf_X9_210 : Cond.fieldLink "FireTax" 210 "FireTax$Rounds" "best" "[I" ∈ uW := uW_2 (i := 59) rfl rfl
theorem kf_X9_213 : Cond.fieldLink "FireTax" 213 "FireTax$Rounds" "most" "I" ∈ uW := uW_2 (i := 65) rfl rfl
theorem kf_X9_216 : Cond.fieldLink "FireTax" 216 "FireTax$Rounds" "least" "I" ∈ uW := uW_2 (i := 63) rfl rfl
theorem kf_X9_225 : Cond.fieldLink "FireTax" 225 "FireTax$Walk" "tenth" "I" ∈ uW := uW_2 (i := 33) rfl rfl
theorem kf_X9_240 : Cond.fieldLink "FireTax" 240 "FireTax$Page" "bookCount" "I" ∈ uW := uW_1 (i := 236) rfl rfl
theorem kf_X9_87 : Cond.fieldLink "FireTax" 87 "FireTax" "suspects" "LFireTax$Suspects;" ∈ uW := uW_2 (i := 123) rfl rfl
theorem kf_X9_261 : Cond.fieldLink "FireTax" 261 "FireTax$Suspects" "size" "I" ∈ uW := uW_2 (i := 100) rfl rfl
theorem kf_X9_267 : Cond.fieldLink "FireTax" 267 "FireTax$Page" "x" "I" ∈ uW := uW_2 (i := 0) rfl rfl
theorem kk_X9_298 : Cond.constantLong "FireTax" 298 1103515245 ∈ uW := uW_5 (i := 3) rfl rfl
theorem kk_X9_300 : Cond.constantLong "FireTax" 300 12345 ∈ uW := uW_5 (i := 4) rfl rfl
theorem kk_X9_302 : Cond.constantLong "FireTax" 302 2147483648 ∈ uW := uW_5 (i := 5) rfl rfl
theorem kk_X9_274 : Cond.constantLong "FireTax" 274 65536 ∈ uW := uW_5 (i := 6) rfl rfl
theorem kk_X9_276 : Cond.constantLong "FireTax" 276 100 ∈ uW := uW_5 (i := 7) rfl rfl
theorem kf_X9_278 : Cond.fieldLink "FireTax" 278 "FireTax$Land" "tenth" "I" ∈ uW := uW_1 (i := 84) rfl rfl
theorem kf_X9_279 : Cond.fieldLink "FireTax" 279 "FireTax$Land" "loss" "I" ∈ uW := uW_1 (i := 88) rfl rfl
theorem kf_X9_282 : Cond.fieldLink "FireTax" 282 "FireTax$Land" "lanes" "I" ∈ uW := uW_1 (i := 100) rfl rfl
theorem kf_X9_56 : Cond.fieldLink "FireTax" 56 "FireTax" "images" "[LFireTax$Page;" ∈ uW := uW_2 (i := 120) rfl rfl
theorem kc_X10_152 : LSt RX10 152 yX10_in cX10_in 6 (some .boolean) 3 := ⟨uW_6 (i := 61) rfl rfl, uW_6 (i := 59) rfl rfl, uW_6 (i := 60) rfl rfl, uW_1 (i := 11) rfl rfl, ⟨by decide +kernel, by decide +kernel, by decide +kernel⟩⟩
theorem kc_X10_156 : LSt RX10 156 yX10_has cX10_has 2 (some .boolean) 2 := ⟨uW_6 (i := 72) rfl rfl, uW_6 (i := 70) rfl rfl, uW_6 (i := 71) rfl rfl, uW_1 (i := 11) rfl rfl, ⟨by decide +kernel, by decide +kernel, by decide +kernel⟩⟩
theorem kc_X10_163 : LV RX10 163 yX10_put cX10_put 3 none 1 := ⟨uW_5 (i := 228) rfl rfl, uW_5 (i := 225) rfl rfl, uW_5 (i := 227) rfl rfl, uW_s (q := (⟨"FireTaxModel", "put", "(I)V"⟩, _)) (List.mem_of_getElem? (i := 38) rfl) rfl, uW_1 (i := 11) rfl rfl, ⟨by decide +kernel, by decide +kernel, by decide +kernel⟩⟩
theorem kc_X10_193 : LV RX10 193 yX10_sign cX10_sign 1 (some .int) 0 := ⟨uW_6 (i := 16) rfl rfl, uW_6 (i := 13) rfl rfl, uW_6 (i := 15) rfl rfl, uW_s (q := (⟨"FireTaxModel", "sign", "()I"⟩, _)) (List.mem_of_getElem? (i := 43) rfl) rfl, uW_1 (i := 11) rfl rfl, ⟨by decide +kernel, by decide +kernel, by decide +kernel⟩⟩
theorem kc_J0_335 : LV "java/lang/String" 335 yJ0_coder_7d493 cJ0_coder_7d493 1 (some .byte) 0 := ⟨uW_2 (i := 194) rfl rfl, uW_2 (i := 191) rfl rfl, uW_2 (i := 192) rfl rfl, uW_2 (i := 193) rfl rfl, uW_1 (i := 12) rfl rfl, ⟨by decide +kernel, by decide +kernel, by decide +kernel⟩⟩
theorem kc_J0_1059 : LSt "java/lang/String" 1059 yJ3_checkIndex_8e157 cJ3_checkIndex_8e157 3 (some .int) 3 := ⟨uW_2 (i := 215) rfl rfl, uW_2 (i := 213) rfl rfl, uW_2 (i := 214) rfl rfl, uW_1 (i := 14) rfl rfl, ⟨by decide +kernel, by decide +kernel, by decide +kernel⟩⟩
theorem kc_J1_9 : LSt "java/lang/StringLatin1" 9 yJ0_checkIndex_df160 cJ0_checkIndex_df160 2 none 2 := ⟨uW_2 (i := 210) rfl rfl, uW_2 (i := 208) rfl rfl, uW_2 (i := 209) rfl rfl, uW_1 (i := 12) rfl rfl, ⟨by decide +kernel, by decide +kernel, by decide +kernel⟩⟩
theorem kc_J0_492 : LV "java/lang/String" 492 yJ0_isLatin1_aae02 cJ0_isLatin1_aae02 1 (some .boolean) 0 := ⟨uW_2 (i := 204) rfl rfl, uW_2 (i := 201) rfl rfl, uW_2 (i := 202) rfl rfl, uW_2 (i := 203) rfl rfl, uW_1 (i := 12) rfl rfl, ⟨by decide +kernel, by decide +kernel, by decide +kernel⟩⟩
theorem kc_J0_495 : LSt "java/lang/String" 495 yJ1_charAt_3b067 cJ1_charAt_3b067 2 (some .char) 2 := ⟨uW_2 (i := 207) rfl rfl, uW_2 (i := 205) rfl rfl, uW_2 (i := 206) rfl rfl, uW_1 (i := 13) rfl rfl, ⟨by decide +kernel, by decide +kernel, by decide +kernel⟩⟩
theorem kc_X10_201 : LV RX10 201 yJ0_length_8abf5 cJ0_length_8abf5 1 (some .int) 0 := ⟨uW_2 (i := 190) rfl rfl, uW_6 (i := 30) rfl rfl, uW_2 (i := 188) rfl rfl, uW_2 (i := 189) rfl rfl, uW_1 (i := 12) rfl rfl, ⟨by decide +kernel, by decide +kernel, by decide +kernel⟩⟩
theorem kc_X10_206 : LV RX10 206 yJ0_charAt_5068e cJ0_charAt_5068e 2 (some .char) 1 := ⟨uW_2 (i := 200) rfl rfl, uW_6 (i := 31) rfl rfl, uW_2 (i := 198) rfl rfl, uW_2 (i := 199) rfl rfl, uW_1 (i := 12) rfl rfl, ⟨by decide +kernel, by decide +kernel, by decide +kernel⟩⟩
theorem kc_X10_210 : LV RX10 210 yX10_blanks cX10_blanks 1 none 0 := ⟨uW_6 (i := 12) rfl rfl, uW_6 (i := 9) rfl rfl, uW_6 (i := 11) rfl rfl, uW_s (q := (⟨"FireTaxModel", "blanks", "()V"⟩, _)) (List.mem_of_getElem? (i := 42) rfl) rfl, uW_1 (i := 11) rfl rfl, ⟨by decide +kernel, by decide +kernel, by decide +kernel⟩⟩
theorem kc_X10_213 : LV RX10 213 yX10_stood cX10_stood 5 (some .boolean) 1 := ⟨uW_6 (i := 29) rfl rfl, uW_6 (i := 26) rfl rfl, uW_6 (i := 28) rfl rfl, uW_s (q := (⟨"FireTaxModel", "stood", "(Ljava/lang/String;)Z"⟩, _)) (List.mem_of_getElem? (i := 44) rfl) rfl, uW_1 (i := 11) rfl rfl, ⟨by decide +kernel, by decide +kernel, by decide +kernel⟩⟩
theorem kc_X10_226 : LV RX10 226 yX10_fails cX10_fails 3 none 2 := ⟨uW_6 (i := 35) rfl rfl, uW_6 (i := 32) rfl rfl, uW_6 (i := 34) rfl rfl, uW_s (q := (⟨"FireTaxModel", "fails", "(II)V"⟩, _)) (List.mem_of_getElem? (i := 45) rfl) rfl, uW_1 (i := 11) rfl rfl, ⟨by decide +kernel, by decide +kernel, by decide +kernel⟩⟩
theorem kc_X10_230 : LV RX10 230 yX10_isDigit cX10_isDigit 1 (some .boolean) 0 := ⟨uW_6 (i := 56) rfl rfl, uW_6 (i := 53) rfl rfl, uW_6 (i := 55) rfl rfl, uW_s (q := (⟨"FireTaxModel", "isDigit", "()Z"⟩, _)) (List.mem_of_getElem? (i := 50) rfl) rfl, uW_1 (i := 11) rfl rfl, ⟨by decide +kernel, by decide +kernel, by decide +kernel⟩⟩
theorem kc_X10_239 : LV RX10 239 yX10_isCounted cX10_isCounted 2 none 1 := ⟨uW_6 (i := 108) rfl rfl, uW_6 (i := 105) rfl rfl, uW_6 (i := 107) rfl rfl, uW_s (q := (⟨"FireTaxModel", "isCounted", "(I)V"⟩, _)) (List.mem_of_getElem? (i := 59) rfl) rfl, uW_1 (i := 11) rfl rfl, ⟨by decide +kernel, by decide +kernel, by decide +kernel⟩⟩
theorem kc_X10_245 : LSt RX10 245 yX10_wordOf cX10_wordOf 1 (some (.object "java/lang/String")) 1 := ⟨uW_6 (i := 115) rfl rfl, uW_6 (i := 113) rfl rfl, uW_6 (i := 114) rfl rfl, uW_1 (i := 11) rfl rfl, ⟨by decide +kernel, by decide +kernel, by decide +kernel⟩⟩
theorem kc_X10_242 : LV RX10 242 yX10_entry cX10_entry 3 none 2 := ⟨uW_6 (i := 112) rfl rfl, uW_6 (i := 109) rfl rfl, uW_6 (i := 111) rfl rfl, uW_s (q := (⟨"FireTaxModel", "entry", "(II)V"⟩, _)) (List.mem_of_getElem? (i := 60) rfl) rfl, uW_1 (i := 11) rfl rfl, ⟨by decide +kernel, by decide +kernel, by decide +kernel⟩⟩
theorem kc_X10_235 : LV RX10 235 yX10_digits cX10_digits 4 (some .int) 1 := ⟨uW_6 (i := 52) rfl rfl, uW_6 (i := 49) rfl rfl, uW_6 (i := 51) rfl rfl, uW_s (q := (⟨"FireTaxModel", "digits", "(I)I"⟩, _)) (List.mem_of_getElem? (i := 49) rfl) rfl, uW_1 (i := 11) rfl rfl, ⟨by decide +kernel, by decide +kernel, by decide +kernel⟩⟩
theorem kc_X10_249 : LV RX10 249 yX10_value cX10_value 3 none 0 := ⟨uW_6 (i := 104) rfl rfl, uW_6 (i := 101) rfl rfl, uW_6 (i := 103) rfl rfl, uW_s (q := (⟨"FireTaxModel", "value", "()V"⟩, _)) (List.mem_of_getElem? (i := 58) rfl) rfl, uW_1 (i := 11) rfl rfl, ⟨by decide +kernel, by decide +kernel, by decide +kernel⟩⟩
theorem kc_X10_252 : LV RX10 252 yX10_term cX10_term 2 none 0 := ⟨uW_6 (i := 100) rfl rfl, uW_6 (i := 97) rfl rfl, uW_6 (i := 99) rfl rfl, uW_s (q := (⟨"FireTaxModel", "term", "()V"⟩, _)) (List.mem_of_getElem? (i := 57) rfl) rfl, uW_1 (i := 11) rfl rfl, ⟨by decide +kernel, by decide +kernel, by decide +kernel⟩⟩
theorem kc_X10_255 : LV RX10 255 yX10_sum cX10_sum 2 none 0 := ⟨uW_6 (i := 96) rfl rfl, uW_6 (i := 93) rfl rfl, uW_6 (i := 95) rfl rfl, uW_s (q := (⟨"FireTaxModel", "sum", "()V"⟩, _)) (List.mem_of_getElem? (i := 56) rfl) rfl, uW_1 (i := 11) rfl rfl, ⟨by decide +kernel, by decide +kernel, by decide +kernel⟩⟩
theorem kc_X10_264 : LV RX10 264 yX10_top cX10_top 1 (some .int) 0 := ⟨uW_6 (i := 155) rfl rfl, uW_6 (i := 152) rfl rfl, uW_6 (i := 154) rfl rfl, uW_s (q := (⟨"FireTaxModel", "top", "()I"⟩, _)) (List.mem_of_getElem? (i := 67) rfl) rfl, uW_1 (i := 11) rfl rfl, ⟨by decide +kernel, by decide +kernel, by decide +kernel⟩⟩
theorem kc_X10_272 : LV RX10 272 yX10_compared cX10_compared 3 none 0 := ⟨uW_6 (i := 147) rfl rfl, uW_6 (i := 144) rfl rfl, uW_6 (i := 146) rfl rfl, uW_s (q := (⟨"FireTaxModel", "compared", "()V"⟩, _)) (List.mem_of_getElem? (i := 65) rfl) rfl, uW_1 (i := 11) rfl rfl, ⟨by decide +kernel, by decide +kernel, by decide +kernel⟩⟩
theorem kc_X10_269 : LV RX10 269 yX10_opens cX10_opens 2 none 1 := ⟨uW_6 (i := 143) rfl rfl, uW_6 (i := 140) rfl rfl, uW_6 (i := 142) rfl rfl, uW_s (q := (⟨"FireTaxModel", "opens", "(I)V"⟩, _)) (List.mem_of_getElem? (i := 64) rfl) rfl, uW_1 (i := 11) rfl rfl, ⟨by decide +kernel, by decide +kernel, by decide +kernel⟩⟩
theorem kc_X10_278 : LV RX10 278 yX10_answers cX10_answers 2 none 1 := ⟨uW_6 (i := 151) rfl rfl, uW_6 (i := 148) rfl rfl, uW_6 (i := 150) rfl rfl, uW_s (q := (⟨"FireTaxModel", "answers", "(I)V"⟩, _)) (List.mem_of_getElem? (i := 66) rfl) rfl, uW_1 (i := 11) rfl rfl, ⟨by decide +kernel, by decide +kernel, by decide +kernel⟩⟩
theorem kc_X10_275 : LV RX10 275 yX10_fact cX10_fact 1 (some .boolean) 0 := ⟨uW_6 (i := 138) rfl rfl, uW_6 (i := 135) rfl rfl, uW_6 (i := 137) rfl rfl, uW_s (q := (⟨"FireTaxModel", "fact", "()Z"⟩, _)) (List.mem_of_getElem? (i := 63) rfl) rfl, uW_1 (i := 11) rfl rfl, ⟨by decide +kernel, by decide +kernel, by decide +kernel⟩⟩
theorem kc_X10_292 : LV RX10 292 yX10_amount cX10_amount 5 (some .int) 2 := ⟨uW_6 (i := 47) rfl rfl, uW_6 (i := 44) rfl rfl, uW_6 (i := 46) rfl rfl, uW_s (q := (⟨"FireTaxModel", "amount", "(II)I"⟩, _)) (List.mem_of_getElem? (i := 48) rfl) rfl, uW_1 (i := 11) rfl rfl, ⟨by decide +kernel, by decide +kernel, by decide +kernel⟩⟩
theorem kc_X10_296 : LV RX10 296 yX10_readsHouse cX10_readsHouse 2 none 0 := ⟨uW_6 (i := 65) rfl rfl, uW_6 (i := 62) rfl rfl, uW_6 (i := 64) rfl rfl, uW_s (q := (⟨"FireTaxModel", "readsHouse", "()V"⟩, _)) (List.mem_of_getElem? (i := 51) rfl) rfl, uW_1 (i := 11) rfl rfl, ⟨by decide +kernel, by decide +kernel, by decide +kernel⟩⟩
theorem kc_X10_299 : LV RX10 299 yX10_readsLane cX10_readsLane 4 none 0 := ⟨uW_6 (i := 69) rfl rfl, uW_6 (i := 66) rfl rfl, uW_6 (i := 68) rfl rfl, uW_s (q := (⟨"FireTaxModel", "readsLane", "()V"⟩, _)) (List.mem_of_getElem? (i := 52) rfl) rfl, uW_1 (i := 11) rfl rfl, ⟨by decide +kernel, by decide +kernel, by decide +kernel⟩⟩
theorem kc_X10_305 : LV RX10 305 yX10_isFull cX10_isFull 3 (some .boolean) 2 := ⟨uW_6 (i := 39) rfl rfl, uW_6 (i := 36) rfl rfl, uW_6 (i := 38) rfl rfl, uW_s (q := (⟨"FireTaxModel", "isFull", "(II)Z"⟩, _)) (List.mem_of_getElem? (i := 46) rfl) rfl, uW_1 (i := 11) rfl rfl, ⟨by decide +kernel, by decide +kernel, by decide +kernel⟩⟩
theorem kc_X10_302 : LSt RX10 302 yX10_duchyWord cX10_duchyWord 1 (some (.object "java/lang/String")) 1 := ⟨uW_6 (i := 19) rfl rfl, uW_6 (i := 17) rfl rfl, uW_6 (i := 18) rfl rfl, uW_1 (i := 11) rfl rfl, ⟨by decide +kernel, by decide +kernel, by decide +kernel⟩⟩
theorem kc_X10_308 : LV RX10 308 yX10_duchyPart cX10_duchyPart 4 none 1 := ⟨uW_6 (i := 43) rfl rfl, uW_6 (i := 40) rfl rfl, uW_6 (i := 42) rfl rfl, uW_s (q := (⟨"FireTaxModel", "duchyPart", "(I)V"⟩, _)) (List.mem_of_getElem? (i := 47) rfl) rfl, uW_1 (i := 11) rfl rfl, ⟨by decide +kernel, by decide +kernel, by decide +kernel⟩⟩
theorem kc_X10_311 : LV RX10 311 yX10_starts cX10_starts 1 none 0 := ⟨uW_6 (i := 4) rfl rfl, uW_6 (i := 1) rfl rfl, uW_6 (i := 3) rfl rfl, uW_s (q := (⟨"FireTaxModel", "starts", "()V"⟩, _)) (List.mem_of_getElem? (i := 40) rfl) rfl, uW_1 (i := 11) rfl rfl, ⟨by decide +kernel, by decide +kernel, by decide +kernel⟩⟩
theorem kc_X10_314 : LV RX10 314 yX10_duchyClause cX10_duchyClause 4 none 1 := ⟨uW_6 (i := 8) rfl rfl, uW_6 (i := 5) rfl rfl, uW_6 (i := 7) rfl rfl, uW_s (q := (⟨"FireTaxModel", "duchyClause", "(I)V"⟩, _)) (List.mem_of_getElem? (i := 41) rfl) rfl, uW_1 (i := 11) rfl rfl, ⟨by decide +kernel, by decide +kernel, by decide +kernel⟩⟩
theorem kc_X10_317 : LV RX10 317 yX10_goesOn cX10_goesOn 2 (some .boolean) 0 := ⟨uW_6 (i := 76) rfl rfl, uW_6 (i := 73) rfl rfl, uW_6 (i := 75) rfl rfl, uW_s (q := (⟨"FireTaxModel", "goesOn", "()Z"⟩, _)) (List.mem_of_getElem? (i := 53) rfl) rfl, uW_1 (i := 11) rfl rfl, ⟨by decide +kernel, by decide +kernel, by decide +kernel⟩⟩
theorem kc_X10_320 : LSt RX10 320 yX10_copies cX10_copies 3 none 2 := ⟨uW_6 (i := 79) rfl rfl, uW_6 (i := 77) rfl rfl, uW_6 (i := 78) rfl rfl, uW_1 (i := 11) rfl rfl, ⟨by decide +kernel, by decide +kernel, by decide +kernel⟩⟩
theorem kc_X10_324 : LV RX10 324 yX10_readsAll cX10_readsAll 3 none 0 := ⟨uW_6 (i := 0) rfl rfl, uW_5 (i := 237) rfl rfl, uW_5 (i := 239) rfl rfl, uW_s (q := (⟨"FireTaxModel", "readsAll", "()V"⟩, _)) (List.mem_of_getElem? (i := 39) rfl) rfl, uW_1 (i := 11) rfl rfl, ⟨by decide +kernel, by decide +kernel, by decide +kernel⟩⟩
theorem kc_X10_331 : LV RX10 331 yX10_begins cX10_begins 2 none 0 := ⟨uW_6 (i := 83) rfl rfl, uW_6 (i := 80) rfl rfl, uW_6 (i := 82) rfl rfl, uW_s (q := (⟨"FireTaxModel", "begins", "()V"⟩, _)) (List.mem_of_getElem? (i := 54) rfl) rfl, uW_1 (i := 11) rfl rfl, ⟨by decide +kernel, by decide +kernel, by decide +kernel⟩⟩
theorem kc_X10_341 : LV RX10 341 yX10_takes cX10_takes 3 (some .boolean) 1 := ⟨uW_6 (i := 130) rfl rfl, uW_6 (i := 127) rfl rfl, uW_6 (i := 129) rfl rfl, uW_s (q := (⟨"FireTaxModel", "takes", "(Ljava/lang/String;)Z"⟩, _)) (List.mem_of_getElem? (i := 61) rfl) rfl, uW_1 (i := 11) rfl rfl, ⟨by decide +kernel, by decide +kernel, by decide +kernel⟩⟩
theorem kc_X10_344 : LV RX10 344 yX10_test cX10_test 5 none 0 := ⟨uW_6 (i := 134) rfl rfl, uW_6 (i := 131) rfl rfl, uW_6 (i := 133) rfl rfl, uW_s (q := (⟨"FireTaxModel", "test", "()V"⟩, _)) (List.mem_of_getElem? (i := 62) rfl) rfl, uW_1 (i := 11) rfl rfl, ⟨by decide +kernel, by decide +kernel, by decide +kernel⟩⟩
theorem kc_X10_350 : LV RX10 350 yX10_ruleClause cX10_ruleClause 4 none 1 := ⟨uW_6 (i := 91) rfl rfl, uW_6 (i := 88) rfl rfl, uW_6 (i := 90) rfl rfl, uW_s (q := (⟨"FireTaxModel", "ruleClause", "(I)V"⟩, _)) (List.mem_of_getElem? (i := 55) rfl) rfl, uW_1 (i := 11) rfl rfl, ⟨by decide +kernel, by decide +kernel, by decide +kernel⟩⟩
theorem kc_X10_359 : LSt RX10 359 yX10_truth cX10_truth 1 (some .long) 1 := ⟨uW_7 (i := 4) rfl rfl, uW_7 (i := 2) rfl rfl, uW_7 (i := 3) rfl rfl, uW_1 (i := 11) rfl rfl, ⟨by decide +kernel, by decide +kernel, by decide +kernel⟩⟩
theorem kc_X10_363 : LSt RX10 363 yX10_both cX10_both 5 (some .long) 3 := ⟨uW_7 (i := 1) rfl rfl, uW_6 (i := 239) rfl rfl, uW_7 (i := 0) rfl rfl, uW_1 (i := 11) rfl rfl, ⟨by decide +kernel, by decide +kernel, by decide +kernel⟩⟩
theorem kc_X10_355 : LV RX10 355 yX10_answer cX10_answer 8 (some .long) 3 := ⟨uW_6 (i := 238) rfl rfl, uW_6 (i := 235) rfl rfl, uW_6 (i := 237) rfl rfl, uW_s (q := (⟨"FireTaxModel", "answer", "(III)J"⟩, _)) (List.mem_of_getElem? (i := 81) rfl) rfl, uW_1 (i := 11) rfl rfl, ⟨by decide +kernel, by decide +kernel, by decide +kernel⟩⟩
theorem kc_X10_367 : LV RX10 367 yX10_isHouse cX10_isHouse 2 (some .boolean) 1 := ⟨uW_6 (i := 170) rfl rfl, uW_6 (i := 167) rfl rfl, uW_6 (i := 169) rfl rfl, uW_s (q := (⟨"FireTaxModel", "isHouse", "(I)Z"⟩, _)) (List.mem_of_getElem? (i := 68) rfl) rfl, uW_1 (i := 11) rfl rfl, ⟨by decide +kernel, by decide +kernel, by decide +kernel⟩⟩
theorem kc_X10_371 : LV RX10 371 yX10_isFrozen cX10_isFrozen 2 (some .boolean) 1 := ⟨uW_6 (i := 174) rfl rfl, uW_6 (i := 171) rfl rfl, uW_6 (i := 173) rfl rfl, uW_s (q := (⟨"FireTaxModel", "isFrozen", "(I)Z"⟩, _)) (List.mem_of_getElem? (i := 69) rfl) rfl, uW_1 (i := 11) rfl rfl, ⟨by decide +kernel, by decide +kernel, by decide +kernel⟩⟩
theorem kc_X10_374 : LV RX10 374 yX10_isOfficer cX10_isOfficer 2 (some .boolean) 1 := ⟨uW_6 (i := 182) rfl rfl, uW_6 (i := 179) rfl rfl, uW_6 (i := 181) rfl rfl, uW_s (q := (⟨"FireTaxModel", "isOfficer", "(I)Z"⟩, _)) (List.mem_of_getElem? (i := 70) rfl) rfl, uW_1 (i := 11) rfl rfl, ⟨by decide +kernel, by decide +kernel, by decide +kernel⟩⟩
theorem kc_X10_377 : LV RX10 377 yX10_tenthOf cX10_tenthOf 5 (some .int) 2 := ⟨uW_6 (i := 226) rfl rfl, uW_6 (i := 223) rfl rfl, uW_6 (i := 225) rfl rfl, uW_s (q := (⟨"FireTaxModel", "tenthOf", "(II)I"⟩, _)) (List.mem_of_getElem? (i := 79) rfl) rfl, uW_1 (i := 11) rfl rfl, ⟨by decide +kernel, by decide +kernel, by decide +kernel⟩⟩
theorem kc_X10_380 : LSt RX10 380 yX10_bits cX10_bits 3 (some .int) 1 := ⟨uW_6 (i := 229) rfl rfl, uW_6 (i := 227) rfl rfl, uW_6 (i := 228) rfl rfl, uW_1 (i := 11) rfl rfl, ⟨by decide +kernel, by decide +kernel, by decide +kernel⟩⟩
theorem kc_X10_385 : LV RX10 385 yX10_wanted cX10_wanted 3 (some .long) 0 := ⟨uW_6 (i := 234) rfl rfl, uW_6 (i := 231) rfl rfl, uW_6 (i := 233) rfl rfl, uW_s (q := (⟨"FireTaxModel", "wanted", "()J"⟩, _)) (List.mem_of_getElem? (i := 80) rfl) rfl, uW_1 (i := 11) rfl rfl, ⟨by decide +kernel, by decide +kernel, by decide +kernel⟩⟩
theorem kc_X10_396 : LV RX10 396 yX10_calls cX10_calls 4 (some .int) 2 := ⟨uW_7 (i := 8) rfl rfl, uW_7 (i := 5) rfl rfl, uW_7 (i := 7) rfl rfl, uW_s (q := (⟨"FireTaxModel", "calls", "(II)I"⟩, _)) (List.mem_of_getElem? (i := 82) rfl) rfl, uW_1 (i := 11) rfl rfl, ⟨by decide +kernel, by decide +kernel, by decide +kernel⟩⟩
theorem kc_X10_389 : LV RX10 389 yX10_canCall cX10_canCall 3 (some .boolean) 2 := ⟨uW_6 (i := 218) rfl rfl, uW_6 (i := 215) rfl rfl, uW_6 (i := 217) rfl rfl, uW_s (q := (⟨"FireTaxModel", "canCall", "(II)Z"⟩, _)) (List.mem_of_getElem? (i := 77) rfl) rfl, uW_1 (i := 11) rfl rfl, ⟨by decide +kernel, by decide +kernel, by decide +kernel⟩⟩
theorem kc_X10_392 : LV RX10 392 yX10_sumOf cX10_sumOf 4 (some .long) 2 := ⟨uW_6 (i := 222) rfl rfl, uW_6 (i := 219) rfl rfl, uW_6 (i := 221) rfl rfl, uW_s (q := (⟨"FireTaxModel", "sumOf", "(II)J"⟩, _)) (List.mem_of_getElem? (i := 78) rfl) rfl, uW_1 (i := 11) rfl rfl, ⟨by decide +kernel, by decide +kernel, by decide +kernel⟩⟩
theorem kc_X10_402 : LV RX10 402 yX10_isSnowTold cX10_isSnowTold 1 (some .boolean) 0 := ⟨uW_7 (i := 16) rfl rfl, uW_7 (i := 13) rfl rfl, uW_7 (i := 15) rfl rfl, uW_s (q := (⟨"FireTaxModel", "isSnowTold", "()Z"⟩, _)) (List.mem_of_getElem? (i := 84) rfl) rfl, uW_1 (i := 11) rfl rfl, ⟨by decide +kernel, by decide +kernel, by decide +kernel⟩⟩
theorem kc_X10_408 : LV RX10 408 yX10_burns cX10_burns 4 none 0 := ⟨uW_7 (i := 12) rfl rfl, uW_7 (i := 9) rfl rfl, uW_7 (i := 11) rfl rfl, uW_s (q := (⟨"FireTaxModel", "burns", "()V"⟩, _)) (List.mem_of_getElem? (i := 83) rfl) rfl, uW_1 (i := 11) rfl rfl, ⟨by decide +kernel, by decide +kernel, by decide +kernel⟩⟩
theorem kc_X10_405 : LV RX10 405 yX10_callsBy cX10_callsBy 8 (some .int) 1 := ⟨uW_6 (i := 214) rfl rfl, uW_6 (i := 211) rfl rfl, uW_6 (i := 213) rfl rfl, uW_s (q := (⟨"FireTaxModel", "callsBy", "(I)I"⟩, _)) (List.mem_of_getElem? (i := 76) rfl) rfl, uW_1 (i := 11) rfl rfl, ⟨by decide +kernel, by decide +kernel, by decide +kernel⟩⟩
theorem kc_X10_411 : LV RX10 411 yX10_goes cX10_goes 3 (some .int) 0 := ⟨uW_6 (i := 210) rfl rfl, uW_6 (i := 207) rfl rfl, uW_6 (i := 209) rfl rfl, uW_s (q := (⟨"FireTaxModel", "goes", "()I"⟩, _)) (List.mem_of_getElem? (i := 75) rfl) rfl, uW_1 (i := 11) rfl rfl, ⟨by decide +kernel, by decide +kernel, by decide +kernel⟩⟩
theorem kc_X10_420 : LV RX10 420 yX10_moves cX10_moves 3 (some .int) 1 := ⟨uW_6 (i := 194) rfl rfl, uW_6 (i := 191) rfl rfl, uW_6 (i := 193) rfl rfl, uW_s (q := (⟨"FireTaxModel", "moves", "(I)I"⟩, _)) (List.mem_of_getElem? (i := 72) rfl) rfl, uW_1 (i := 11) rfl rfl, ⟨by decide +kernel, by decide +kernel, by decide +kernel⟩⟩
theorem kc_X10_423 : LV RX10 423 yX10_movesRow cX10_movesRow 3 none 1 := ⟨uW_6 (i := 198) rfl rfl, uW_6 (i := 195) rfl rfl, uW_6 (i := 197) rfl rfl, uW_s (q := (⟨"FireTaxModel", "movesRow", "([I)V"⟩, _)) (List.mem_of_getElem? (i := 73) rfl) rfl, uW_1 (i := 11) rfl rfl, ⟨by decide +kernel, by decide +kernel, by decide +kernel⟩⟩
theorem kc_X10_427 : LV RX10 427 yX10_movesAll cX10_movesAll 4 none 2 := ⟨uW_6 (i := 190) rfl rfl, uW_6 (i := 187) rfl rfl, uW_6 (i := 189) rfl rfl, uW_s (q := (⟨"FireTaxModel", "movesAll", "(IZ)V"⟩, _)) (List.mem_of_getElem? (i := 71) rfl) rfl, uW_1 (i := 11) rfl rfl, ⟨by decide +kernel, by decide +kernel, by decide +kernel⟩⟩
theorem kc_X10_431 : LV RX10 431 yX10_keepsAct cX10_keepsAct 2 none 0 := ⟨uW_6 (i := 206) rfl rfl, uW_6 (i := 203) rfl rfl, uW_6 (i := 205) rfl rfl, uW_s (q := (⟨"FireTaxModel", "keepsAct", "()V"⟩, _)) (List.mem_of_getElem? (i := 74) rfl) rfl, uW_1 (i := 11) rfl rfl, ⟨by decide +kernel, by decide +kernel, by decide +kernel⟩⟩
theorem kc_X10_436 : LSt RX10 436 yX10_held cX10_held 1 (some .int) 1 := ⟨uW_7 (i := 32) rfl rfl, uW_7 (i := 30) rfl rfl, uW_7 (i := 31) rfl rfl, uW_1 (i := 11) rfl rfl, ⟨by decide +kernel, by decide +kernel, by decide +kernel⟩⟩
theorem kc_X10_439 : LV RX10 439 yX10_lends cX10_lends 4 none 3 := ⟨uW_7 (i := 29) rfl rfl, uW_7 (i := 26) rfl rfl, uW_7 (i := 28) rfl rfl, uW_s (q := (⟨"FireTaxModel", "lends", "(III)V"⟩, _)) (List.mem_of_getElem? (i := 85) rfl) rfl, uW_1 (i := 11) rfl rfl, ⟨by decide +kernel, by decide +kernel, by decide +kernel⟩⟩
theorem kc_X10_509 : LV RX10 509 yX10_carryRow cX10_carryRow 3 none 1 := ⟨uW_7 (i := 61) rfl rfl, uW_7 (i := 58) rfl rfl, uW_7 (i := 60) rfl rfl, uW_s (q := (⟨"FireTaxModel", "carryRow", "([I)V"⟩, _)) (List.mem_of_getElem? (i := 88) rfl) rfl, uW_1 (i := 11) rfl rfl, ⟨by decide +kernel, by decide +kernel, by decide +kernel⟩⟩
theorem kc_X10_443 : LV RX10 443 yX10_carriesAll cX10_carriesAll 3 none 2 := ⟨uW_7 (i := 57) rfl rfl, uW_7 (i := 54) rfl rfl, uW_7 (i := 56) rfl rfl, uW_s (q := (⟨"FireTaxModel", "carriesAll", "(IZ)V"⟩, _)) (List.mem_of_getElem? (i := 87) rfl) rfl, uW_1 (i := 11) rfl rfl, ⟨by decide +kernel, by decide +kernel, by decide +kernel⟩⟩
theorem kc_X10_448 : LV RX10 448 yX10_keepsAll cX10_keepsAll 1 none 0 := ⟨uW_7 (i := 53) rfl rfl, uW_7 (i := 50) rfl rfl, uW_7 (i := 52) rfl rfl, uW_s (q := (⟨"FireTaxModel", "keepsAll", "()V"⟩, _)) (List.mem_of_getElem? (i := 86) rfl) rfl, uW_1 (i := 11) rfl rfl, ⟨by decide +kernel, by decide +kernel, by decide +kernel⟩⟩
theorem kc_X10_451 : LV RX10 451 yX10_goFor cX10_goFor 3 none 1 := ⟨uW_7 (i := 65) rfl rfl, uW_7 (i := 62) rfl rfl, uW_7 (i := 64) rfl rfl, uW_s (q := (⟨"FireTaxModel", "goFor", "(I)V"⟩, _)) (List.mem_of_getElem? (i := 89) rfl) rfl, uW_1 (i := 11) rfl rfl, ⟨by decide +kernel, by decide +kernel, by decide +kernel⟩⟩
theorem kc_X10_454 : LV RX10 454 yX10_laysBack cX10_laysBack 1 none 0 := ⟨uW_7 (i := 69) rfl rfl, uW_7 (i := 66) rfl rfl, uW_7 (i := 68) rfl rfl, uW_s (q := (⟨"FireTaxModel", "laysBack", "()V"⟩, _)) (List.mem_of_getElem? (i := 90) rfl) rfl, uW_1 (i := 11) rfl rfl, ⟨by decide +kernel, by decide +kernel, by decide +kernel⟩⟩
theorem kc_X10_464 : LV RX10 464 yX10_rowsOf cX10_rowsOf 4 (some .int) 1 := ⟨uW_7 (i := 83) rfl rfl, uW_7 (i := 80) rfl rfl, uW_7 (i := 82) rfl rfl, uW_s (q := (⟨"FireTaxModel", "rowsOf", "(I)I"⟩, _)) (List.mem_of_getElem? (i := 91) rfl) rfl, uW_1 (i := 11) rfl rfl, ⟨by decide +kernel, by decide +kernel, by decide +kernel⟩⟩
theorem kc_X10_467 : LV RX10 467 yX10_takenBy cX10_takenBy 10 (some .int) 3 := ⟨uW_7 (i := 87) rfl rfl, uW_7 (i := 84) rfl rfl, uW_7 (i := 86) rfl rfl, uW_s (q := (⟨"FireTaxModel", "takenBy", "(III)I"⟩, _)) (List.mem_of_getElem? (i := 92) rfl) rfl, uW_1 (i := 11) rfl rfl, ⟨by decide +kernel, by decide +kernel, by decide +kernel⟩⟩
theorem kc_X10_475 : LV RX10 475 yX10_warmthOf cX10_warmthOf 2 (some .int) 1 := ⟨uW_7 (i := 113) rfl rfl, uW_7 (i := 110) rfl rfl, uW_7 (i := 112) rfl rfl, uW_s (q := (⟨"FireTaxModel", "warmthOf", "(I)I"⟩, _)) (List.mem_of_getElem? (i := 93) rfl) rfl, uW_1 (i := 11) rfl rfl, ⟨by decide +kernel, by decide +kernel, by decide +kernel⟩⟩
theorem kc_X10_478 : LV RX10 478 yX10_lanesTo cX10_lanesTo 7 (some .int) 2 := ⟨uW_7 (i := 121) rfl rfl, uW_7 (i := 118) rfl rfl, uW_7 (i := 120) rfl rfl, uW_s (q := (⟨"FireTaxModel", "lanesTo", "(II)I"⟩, _)) (List.mem_of_getElem? (i := 94) rfl) rfl, uW_1 (i := 11) rfl rfl, ⟨by decide +kernel, by decide +kernel, by decide +kernel⟩⟩
theorem kc_X10_485 : LV RX10 485 yX10_couldRule cX10_couldRule 6 (some .boolean) 2 := ⟨uW_7 (i := 139) rfl rfl, uW_7 (i := 136) rfl rfl, uW_7 (i := 138) rfl rfl, uW_s (q := (⟨"FireTaxModel", "couldRule", "(II)Z"⟩, _)) (List.mem_of_getElem? (i := 95) rfl) rfl, uW_1 (i := 11) rfl rfl, ⟨by decide +kernel, by decide +kernel, by decide +kernel⟩⟩
theorem kc_X10_488 : LV RX10 488 yX10_mostAlike cX10_mostAlike 7 (some .int) 2 := ⟨uW_7 (i := 147) rfl rfl, uW_7 (i := 144) rfl rfl, uW_7 (i := 146) rfl rfl, uW_s (q := (⟨"FireTaxModel", "mostAlike", "(II)I"⟩, _)) (List.mem_of_getElem? (i := 96) rfl) rfl, uW_1 (i := 11) rfl rfl, ⟨by decide +kernel, by decide +kernel, by decide +kernel⟩⟩
theorem kc_X10_500 : LV RX10 500 yX10_draws cX10_draws 2 (some .int) 1 := ⟨uW_7 (i := 160) rfl rfl, uW_7 (i := 157) rfl rfl, uW_7 (i := 159) rfl rfl, uW_s (q := (⟨"FireTaxModel", "draws", "(I)I"⟩, _)) (List.mem_of_getElem? (i := 97) rfl) rfl, uW_1 (i := 11) rfl rfl, ⟨by decide +kernel, by decide +kernel, by decide +kernel⟩⟩
theorem kc_X0_46 : LV RX0 46 yX0_fail cX0_fail 2 (some .boolean) 1 := ⟨uW_3 (i := 91) rfl rfl, uW_3 (i := 88) rfl rfl, uW_3 (i := 90) rfl rfl, uW_s (q := (⟨"FireTax$DuchyReader", "fail", "(I)Z"⟩, _)) (List.mem_of_getElem? (i := 6) rfl) rfl, uW_1 (i := 3) rfl rfl, ⟨by decide +kernel, by decide +kernel, by decide +kernel⟩⟩
theorem kc_X0_49 : LV RX0 49 yX7_step cX7_step 1 none 0 := ⟨uW_3 (i := 72) rfl rfl, uW_3 (i := 96) rfl rfl, uW_3 (i := 70) rfl rfl, uW_3 (i := 71) rfl rfl, uW_1 (i := 2) rfl rfl, ⟨by decide +kernel, by decide +kernel, by decide +kernel⟩⟩
theorem kc_X0_97 : LV RX0 97 yX1_addHouse cX1_addHouse 4 none 3 := ⟨uW_3 (i := 112) rfl rfl, uW_3 (i := 109) rfl rfl, uW_3 (i := 110) rfl rfl, uW_3 (i := 111) rfl rfl, uW_1 (i := 4) rfl rfl, ⟨by decide +kernel, by decide +kernel, by decide +kernel⟩⟩
theorem kc_X0_101 : LV RX0 101 yX1_addLane cX1_addLane 3 none 2 := ⟨uW_3 (i := 116) rfl rfl, uW_3 (i := 113) rfl rfl, uW_3 (i := 114) rfl rfl, uW_3 (i := 115) rfl rfl, uW_1 (i := 4) rfl rfl, ⟨by decide +kernel, by decide +kernel, by decide +kernel⟩⟩
theorem kc_X0_108 : LV RX0 108 yX1_addOfficer cX1_addOfficer 3 none 2 := ⟨uW_3 (i := 120) rfl rfl, uW_3 (i := 117) rfl rfl, uW_3 (i := 118) rfl rfl, uW_3 (i := 119) rfl rfl, uW_1 (i := 4) rfl rfl, ⟨by decide +kernel, by decide +kernel, by decide +kernel⟩⟩
theorem kc_X0_111 : LV RX0 111 yX1_addSnow cX1_addSnow 2 none 1 := ⟨uW_3 (i := 124) rfl rfl, uW_3 (i := 121) rfl rfl, uW_3 (i := 122) rfl rfl, uW_3 (i := 123) rfl rfl, uW_1 (i := 4) rfl rfl, ⟨by decide +kernel, by decide +kernel, by decide +kernel⟩⟩
theorem kc_X0_52 : LSt RX0 52 yX0_formOf cX0_formOf 1 (some .int) 1 := ⟨uW_3 (i := 87) rfl rfl, uW_3 (i := 85) rfl rfl, uW_3 (i := 86) rfl rfl, uW_1 (i := 3) rfl rfl, ⟨by decide +kernel, by decide +kernel, by decide +kernel⟩⟩
theorem kc_X0_56 : LV RX0 56 yX0_isFull cX0_isFull 2 (some .boolean) 1 := ⟨uW_3 (i := 95) rfl rfl, uW_3 (i := 92) rfl rfl, uW_3 (i := 94) rfl rfl, uW_s (q := (⟨"FireTax$DuchyReader", "isFull", "(I)Z"⟩, _)) (List.mem_of_getElem? (i := 7) rfl) rfl, uW_1 (i := 3) rfl rfl, ⟨by decide +kernel, by decide +kernel, by decide +kernel⟩⟩
theorem kc_X0_66 : LV RX0 66 yX0_put cX0_put 2 none 1 := ⟨uW_3 (i := 108) rfl rfl, uW_3 (i := 105) rfl rfl, uW_3 (i := 107) rfl rfl, uW_s (q := (⟨"FireTax$DuchyReader", "put", "(I)V"⟩, _)) (List.mem_of_getElem? (i := 9) rfl) rfl, uW_1 (i := 3) rfl rfl, ⟨by decide +kernel, by decide +kernel, by decide +kernel⟩⟩
theorem kc_X0_62 : LV RX0 62 yX0_readNumber cX0_readNumber 8 (some .boolean) 2 := ⟨uW_3 (i := 102) rfl rfl, uW_3 (i := 99) rfl rfl, uW_3 (i := 101) rfl rfl, uW_s (q := (⟨"FireTax$DuchyReader", "readNumber", "(II)Z"⟩, _)) (List.mem_of_getElem? (i := 8) rfl) rfl, uW_1 (i := 3) rfl rfl, ⟨by decide +kernel, by decide +kernel, by decide +kernel⟩⟩
theorem kc_X0_30 : LV RX0 30 yX1_clear cX1_clear 2 none 0 := ⟨uW_3 (i := 80) rfl rfl, uW_3 (i := 77) rfl rfl, uW_3 (i := 78) rfl rfl, uW_3 (i := 79) rfl rfl, uW_1 (i := 4) rfl rfl, ⟨by decide +kernel, by decide +kernel, by decide +kernel⟩⟩
theorem kc_X0_37 : LV RX0 37 yX0_readClause cX0_readClause 5 (some .boolean) 1 := ⟨uW_3 (i := 84) rfl rfl, uW_3 (i := 81) rfl rfl, uW_3 (i := 83) rfl rfl, uW_s (q := (⟨"FireTax$DuchyReader", "readClause", "(I)Z"⟩, _)) (List.mem_of_getElem? (i := 5) rfl) rfl, uW_1 (i := 3) rfl rfl, ⟨by decide +kernel, by decide +kernel, by decide +kernel⟩⟩
theorem kc_X2_47 : LV RX2 47 yX1_copyFrom cX1_copyFrom 2 none 1 := ⟨uW_3 (i := 132) rfl rfl, uW_3 (i := 129) rfl rfl, uW_3 (i := 130) rfl rfl, uW_3 (i := 131) rfl rfl, uW_1 (i := 4) rfl rfl, ⟨by decide +kernel, by decide +kernel, by decide +kernel⟩⟩
theorem kc_X8_72 : LV RX8 72 yX8_room cX8_room 3 (some .int) 2 := ⟨uW_4 (i := 26) rfl rfl, uW_4 (i := 23) rfl rfl, uW_4 (i := 24) rfl rfl, uW_4 (i := 25) rfl rfl, uW_1 (i := 8) rfl rfl, ⟨by decide +kernel, by decide +kernel, by decide +kernel⟩⟩
theorem kc_X8_66 : LV RX8 66 yX8_share cX8_share 4 (some .int) 3 := ⟨uW_4 (i := 22) rfl rfl, uW_4 (i := 19) rfl rfl, uW_4 (i := 21) rfl rfl, uW_s (q := (⟨"FireTax$Walk", "share", "([III)I"⟩, _)) (List.mem_of_getElem? (i := 25) rfl) rfl, uW_1 (i := 8) rfl rfl, ⟨by decide +kernel, by decide +kernel, by decide +kernel⟩⟩
theorem kc_X8_92 : LV RX8 92 yX1_hasSnow cX1_hasSnow 3 (some .boolean) 1 := ⟨uW_4 (i := 57) rfl rfl, uW_4 (i := 54) rfl rfl, uW_4 (i := 55) rfl rfl, uW_4 (i := 56) rfl rfl, uW_1 (i := 4) rfl rfl, ⟨by decide +kernel, by decide +kernel, by decide +kernel⟩⟩
theorem kc_X3_66 : LV RX3 66 yX3_weigh cX3_weigh 4 none 1 := ⟨uW_4 (i := 128) rfl rfl, uW_4 (i := 125) rfl rfl, uW_4 (i := 127) rfl rfl, uW_s (q := (⟨"FireTax$Rounds", "weigh", "(I)V"⟩, _)) (List.mem_of_getElem? (i := 30) rfl) rfl, uW_1 (i := 9) rfl rfl, ⟨by decide +kernel, by decide +kernel, by decide +kernel⟩⟩
theorem kc_X3_74 : LV RX3 74 yX8_canCall cX8_canCall 6 (some .boolean) 3 := ⟨uW_4 (i := 14) rfl rfl, uW_4 (i := 131) rfl rfl, uW_4 (i := 12) rfl rfl, uW_4 (i := 13) rfl rfl, uW_1 (i := 8) rfl rfl, ⟨by decide +kernel, by decide +kernel, by decide +kernel⟩⟩
theorem kc_X3_78 : LV RX3 78 yX8_callAt cX8_callAt 5 (some .int) 3 := ⟨uW_4 (i := 49) rfl rfl, uW_4 (i := 132) rfl rfl, uW_4 (i := 47) rfl rfl, uW_4 (i := 48) rfl rfl, uW_1 (i := 8) rfl rfl, ⟨by decide +kernel, by decide +kernel, by decide +kernel⟩⟩
theorem kc_X3_82 : LV RX3 82 yX8_burn cX8_burn 6 none 2 := ⟨uW_4 (i := 53) rfl rfl, uW_4 (i := 133) rfl rfl, uW_4 (i := 51) rfl rfl, uW_4 (i := 52) rfl rfl, uW_1 (i := 8) rfl rfl, ⟨by decide +kernel, by decide +kernel, by decide +kernel⟩⟩
theorem kc_X3_62 : LV RX3 62 yX3_goOn cX3_goOn 5 none 1 := ⟨uW_4 (i := 124) rfl rfl, uW_4 (i := 121) rfl rfl, uW_4 (i := 123) rfl rfl, uW_s (q := (⟨"FireTax$Rounds", "goOn", "(I)V"⟩, _)) (List.mem_of_getElem? (i := 29) rfl) rfl, uW_1 (i := 9) rfl rfl, ⟨by decide +kernel, by decide +kernel, by decide +kernel⟩⟩
theorem kc_X3_56 : LV RX3 56 yX8_follow cX8_follow 2 none 1 := ⟨uW_4 (i := 2) rfl rfl, uW_4 (i := 120) rfl rfl, uW_4 (i := 0) rfl rfl, uW_4 (i := 1) rfl rfl, uW_1 (i := 8) rfl rfl, ⟨by decide +kernel, by decide +kernel, by decide +kernel⟩⟩
theorem kc_X4_39 : LSt RX4 39 yX4_join cX4_join 5 (some .long) 3 := ⟨uW_4 (i := 45) rfl rfl, uW_4 (i := 43) rfl rfl, uW_4 (i := 44) rfl rfl, uW_1 (i := 6) rfl rfl, ⟨by decide +kernel, by decide +kernel, by decide +kernel⟩⟩
theorem kc_X4_35 : LV RX4 35 yX4_run cX4_run 7 (some .long) 3 := ⟨uW_4 (i := 42) rfl rfl, uW_4 (i := 39) rfl rfl, uW_4 (i := 41) rfl rfl, uW_s (q := (⟨"FireTax$Rule", "run", "(II[J)J"⟩, _)) (List.mem_of_getElem? (i := 26) rfl) rfl, uW_1 (i := 6) rfl rfl, ⟨by decide +kernel, by decide +kernel, by decide +kernel⟩⟩
theorem kc_X5_48 : LV RX5 48 yX7_step cX7_step 1 none 0 := ⟨uW_3 (i := 72) rfl rfl, uW_3 (i := 158) rfl rfl, uW_3 (i := 70) rfl rfl, uW_3 (i := 71) rfl rfl, uW_1 (i := 2) rfl rfl, ⟨by decide +kernel, by decide +kernel, by decide +kernel⟩⟩
theorem kc_X5_57 : LV RX5 57 yX5_fail cX5_fail 2 (some .boolean) 1 := ⟨uW_3 (i := 157) rfl rfl, uW_3 (i := 154) rfl rfl, uW_3 (i := 156) rfl rfl, uW_s (q := (⟨"FireTax$RuleReader", "fail", "(I)Z"⟩, _)) (List.mem_of_getElem? (i := 11) rfl) rfl, uW_1 (i := 5) rfl rfl, ⟨by decide +kernel, by decide +kernel, by decide +kernel⟩⟩
theorem kc_X5_63 : LV RX5 63 yX4_put cX4_put 2 none 1 := ⟨uW_3 (i := 170) rfl rfl, uW_3 (i := 167) rfl rfl, uW_3 (i := 168) rfl rfl, uW_3 (i := 169) rfl rfl, uW_1 (i := 6) rfl rfl, ⟨by decide +kernel, by decide +kernel, by decide +kernel⟩⟩
theorem kc_X5_77 : LV RX5 77 yX5_readValue cX5_readValue 2 (some .boolean) 0 := ⟨uW_3 (i := 166) rfl rfl, uW_3 (i := 163) rfl rfl, uW_3 (i := 165) rfl rfl, uW_s (q := (⟨"FireTax$RuleReader", "readValue", "()Z"⟩, _)) (List.mem_of_getElem? (i := 13) rfl) rfl, uW_1 (i := 5) rfl rfl, ⟨by decide +kernel, by decide +kernel, by decide +kernel⟩⟩
theorem kc_X6_64 : LV RX6 64 yX8_follow cX8_follow 2 none 1 := ⟨uW_4 (i := 2) rfl rfl, uW_4 (i := 205) rfl rfl, uW_4 (i := 0) rfl rfl, uW_4 (i := 1) rfl rfl, uW_1 (i := 8) rfl rfl, ⟨by decide +kernel, by decide +kernel, by decide +kernel⟩⟩
theorem kc_X8_84 : LSt RX8 84 yJ6_bitCount_0f7a4 cJ6_bitCount_0f7a4 1 (some .int) 1 := ⟨uW_4 (i := 30) rfl rfl, uW_4 (i := 28) rfl rfl, uW_4 (i := 29) rfl rfl, uW_1 (i := 19) rfl rfl, ⟨by decide +kernel, by decide +kernel, by decide +kernel⟩⟩
theorem kc_X8_48 : LV RX8 48 yX8_canCall cX8_canCall 6 (some .boolean) 3 := ⟨uW_4 (i := 14) rfl rfl, uW_4 (i := 11) rfl rfl, uW_4 (i := 12) rfl rfl, uW_4 (i := 13) rfl rfl, uW_1 (i := 8) rfl rfl, ⟨by decide +kernel, by decide +kernel, by decide +kernel⟩⟩
theorem kc_X8_52 : LV RX8 52 yX8_tellWords cX8_tellWords 4 none 3 := ⟨uW_4 (i := 18) rfl rfl, uW_4 (i := 15) rfl rfl, uW_4 (i := 17) rfl rfl, uW_s (q := (⟨"FireTax$Walk", "tellWords", "([III)V"⟩, _)) (List.mem_of_getElem? (i := 24) rfl) rfl, uW_1 (i := 8) rfl rfl, ⟨by decide +kernel, by decide +kernel, by decide +kernel⟩⟩
theorem kc_X8_56 : LV RX8 56 yX4_worth cX4_worth 4 (some .long) 1 := ⟨uW_4 (i := 38) rfl rfl, uW_4 (i := 35) rfl rfl, uW_4 (i := 36) rfl rfl, uW_4 (i := 37) rfl rfl, uW_1 (i := 6) rfl rfl, ⟨by decide +kernel, by decide +kernel, by decide +kernel⟩⟩
theorem kc_X8_41 : LV RX8 41 yX8_burn cX8_burn 6 none 2 := ⟨uW_4 (i := 53) rfl rfl, uW_4 (i := 50) rfl rfl, uW_4 (i := 51) rfl rfl, uW_4 (i := 52) rfl rfl, uW_1 (i := 8) rfl rfl, ⟨by decide +kernel, by decide +kernel, by decide +kernel⟩⟩
theorem kc_X8_33 : LV RX8 33 yX8_choose cX8_choose 9 (some .int) 2 := ⟨uW_4 (i := 10) rfl rfl, uW_4 (i := 7) rfl rfl, uW_4 (i := 9) rfl rfl, uW_s (q := (⟨"FireTax$Walk", "choose", "([II)I"⟩, _)) (List.mem_of_getElem? (i := 23) rfl) rfl, uW_1 (i := 8) rfl rfl, ⟨by decide +kernel, by decide +kernel, by decide +kernel⟩⟩
theorem kc_X8_37 : LV RX8 37 yX8_callAt cX8_callAt 5 (some .int) 3 := ⟨uW_4 (i := 49) rfl rfl, uW_4 (i := 46) rfl rfl, uW_4 (i := 47) rfl rfl, uW_4 (i := 48) rfl rfl, uW_1 (i := 8) rfl rfl, ⟨by decide +kernel, by decide +kernel, by decide +kernel⟩⟩
theorem kc_X6_30 : LV RX6 30 yX6_begin cX6_begin 2 none 1 := ⟨uW_4 (i := 203) rfl rfl, uW_4 (i := 200) rfl rfl, uW_4 (i := 202) rfl rfl, uW_s (q := (⟨"FireTax$Suspects", "begin", "(LFireTax$Rule;)V"⟩, _)) (List.mem_of_getElem? (i := 35) rfl) rfl, uW_1 (i := 10) rfl rfl, ⟨by decide +kernel, by decide +kernel, by decide +kernel⟩⟩
theorem kc_X6_34 : LV RX6 34 yX6_lastBookNight cX6_lastBookNight 3 (some .int) 0 := ⟨uW_4 (i := 209) rfl rfl, uW_4 (i := 206) rfl rfl, uW_4 (i := 208) rfl rfl, uW_s (q := (⟨"FireTax$Suspects", "lastBookNight", "()I"⟩, _)) (List.mem_of_getElem? (i := 36) rfl) rfl, uW_1 (i := 10) rfl rfl, ⟨by decide +kernel, by decide +kernel, by decide +kernel⟩⟩
theorem kc_X6_38 : LV RX6 38 yX8_pass cX8_pass 6 (some .int) 2 := ⟨uW_4 (i := 6) rfl rfl, uW_4 (i := 211) rfl rfl, uW_4 (i := 4) rfl rfl, uW_4 (i := 5) rfl rfl, uW_1 (i := 8) rfl rfl, ⟨by decide +kernel, by decide +kernel, by decide +kernel⟩⟩
theorem kc_X6_44 : LV RX6 44 yX6_agrees cX6_agrees 3 (some .boolean) 1 := ⟨uW_4 (i := 215) rfl rfl, uW_4 (i := 212) rfl rfl, uW_4 (i := 214) rfl rfl, uW_s (q := (⟨"FireTax$Suspects", "agrees", "(I)Z"⟩, _)) (List.mem_of_getElem? (i := 37) rfl) rfl, uW_1 (i := 10) rfl rfl, ⟨by decide +kernel, by decide +kernel, by decide +kernel⟩⟩
theorem kc_X7_78 : LV RX7 78 yJ0_charAt_5068e cJ0_charAt_5068e 2 (some .char) 1 := ⟨uW_2 (i := 200) rfl rfl, uW_2 (i := 197) rfl rfl, uW_2 (i := 198) rfl rfl, uW_2 (i := 199) rfl rfl, uW_1 (i := 12) rfl rfl, ⟨by decide +kernel, by decide +kernel, by decide +kernel⟩⟩
theorem kc_X7_74 : LV RX7 74 yJ0_length_8abf5 cJ0_length_8abf5 1 (some .int) 0 := ⟨uW_2 (i := 190) rfl rfl, uW_2 (i := 187) rfl rfl, uW_2 (i := 188) rfl rfl, uW_2 (i := 189) rfl rfl, uW_1 (i := 12) rfl rfl, ⟨by decide +kernel, by decide +kernel, by decide +kernel⟩⟩
theorem kc_X7_82 : LSt RX7 82 yX7_isWord cX7_isWord 5 (some .boolean) 4 := ⟨uW_2 (i := 237) rfl rfl, uW_2 (i := 235) rfl rfl, uW_2 (i := 236) rfl rfl, uW_1 (i := 2) rfl rfl, ⟨by decide +kernel, by decide +kernel, by decide +kernel⟩⟩
theorem kc_X7_69 : LSt RX7 69 yX7_wordOf cX7_wordOf 6 (some .int) 3 := ⟨uW_2 (i := 185) rfl rfl, uW_2 (i := 183) rfl rfl, uW_2 (i := 184) rfl rfl, uW_1 (i := 2) rfl rfl, ⟨by decide +kernel, by decide +kernel, by decide +kernel⟩⟩
theorem kc_X7_41 : LV RX7 41 yX7_add cX7_add 4 none 3 := ⟨uW_3 (i := 1) rfl rfl, uW_2 (i := 238) rfl rfl, uW_3 (i := 0) rfl rfl, uW_s (q := (⟨"FireTax$Tokens", "add", "(III)V"⟩, _)) (List.mem_of_getElem? (i := 3) rfl) rfl, uW_1 (i := 2) rfl rfl, ⟨by decide +kernel, by decide +kernel, by decide +kernel⟩⟩
theorem kc_X7_48 : LSt RX7 48 yX7_isLetter cX7_isLetter 1 (some .boolean) 1 := ⟨uW_2 (i := 178) rfl rfl, uW_2 (i := 176) rfl rfl, uW_2 (i := 177) rfl rfl, uW_1 (i := 2) rfl rfl, ⟨by decide +kernel, by decide +kernel, by decide +kernel⟩⟩
theorem kc_X7_55 : LSt RX7 55 yX7_isDigit cX7_isDigit 1 (some .boolean) 1 := ⟨uW_3 (i := 4) rfl rfl, uW_3 (i := 2) rfl rfl, uW_3 (i := 3) rfl rfl, uW_1 (i := 2) rfl rfl, ⟨by decide +kernel, by decide +kernel, by decide +kernel⟩⟩
theorem kc_J1_88 : LSt "java/lang/StringLatin1" 88 yJ1_canEncode_9a6ad cJ1_canEncode_9a6ad 1 (some .boolean) 1 := ⟨uW_3 (i := 24) rfl rfl, uW_3 (i := 22) rfl rfl, uW_3 (i := 23) rfl rfl, uW_1 (i := 13) rfl rfl, ⟨by decide +kernel, by decide +kernel, by decide +kernel⟩⟩
theorem kc_J1_95 : LSt "java/lang/StringLatin1" 95 yJ1_indexOfChar_4cfef cJ1_indexOfChar_4cfef 6 (some .int) 4 := ⟨uW_3 (i := 33) rfl rfl, uW_3 (i := 31) rfl rfl, uW_3 (i := 32) rfl rfl, uW_1 (i := 13) rfl rfl, ⟨by decide +kernel, by decide +kernel, by decide +kernel⟩⟩
theorem kc_J0_505 : LV "java/lang/String" 505 yJ0_length_8abf5 cJ0_length_8abf5 1 (some .int) 0 := ⟨uW_2 (i := 190) rfl rfl, uW_3 (i := 18) rfl rfl, uW_2 (i := 188) rfl rfl, uW_2 (i := 189) rfl rfl, uW_1 (i := 12) rfl rfl, ⟨by decide +kernel, by decide +kernel, by decide +kernel⟩⟩
theorem kc_J0_637 : LSt "java/lang/String" 637 yJ1_indexOf_4cfef cJ1_indexOf_4cfef 4 (some .int) 4 := ⟨uW_3 (i := 21) rfl rfl, uW_3 (i := 19) rfl rfl, uW_3 (i := 20) rfl rfl, uW_1 (i := 13) rfl rfl, ⟨by decide +kernel, by decide +kernel, by decide +kernel⟩⟩
theorem kc_J0_633 : LV "java/lang/String" 633 yJ0_indexOf_7cf53 cJ0_indexOf_7cf53 3 (some .int) 2 := ⟨uW_3 (i := 17) rfl rfl, uW_3 (i := 14) rfl rfl, uW_3 (i := 15) rfl rfl, uW_3 (i := 16) rfl rfl, uW_1 (i := 12) rfl rfl, ⟨by decide +kernel, by decide +kernel, by decide +kernel⟩⟩
theorem kc_X7_63 : LV RX7 63 yJ0_indexOf_0f7a4 cJ0_indexOf_0f7a4 2 (some .int) 1 := ⟨uW_3 (i := 13) rfl rfl, uW_3 (i := 10) rfl rfl, uW_3 (i := 11) rfl rfl, uW_3 (i := 12) rfl rfl, uW_1 (i := 12) rfl rfl, ⟨by decide +kernel, by decide +kernel, by decide +kernel⟩⟩
theorem kc_X7_58 : LV RX7 58 yX7_readNumber cX7_readNumber 6 (some .int) 3 := ⟨uW_3 (i := 8) rfl rfl, uW_3 (i := 5) rfl rfl, uW_3 (i := 7) rfl rfl, uW_s (q := (⟨"FireTax$Tokens", "readNumber", "([III)I"⟩, _)) (List.mem_of_getElem? (i := 4) rfl) rfl, uW_1 (i := 2) rfl rfl, ⟨by decide +kernel, by decide +kernel, by decide +kernel⟩⟩
theorem kc_X7_52 : LV RX7 52 yX7_readWord cX7_readWord 5 (some .int) 3 := ⟨uW_2 (i := 182) rfl rfl, uW_2 (i := 179) rfl rfl, uW_2 (i := 181) rfl rfl, uW_s (q := (⟨"FireTax$Tokens", "readWord", "([III)I"⟩, _)) (List.mem_of_getElem? (i := 2) rfl) rfl, uW_1 (i := 2) rfl rfl, ⟨by decide +kernel, by decide +kernel, by decide +kernel⟩⟩
theorem kc_X7_45 : LV RX7 45 yX7_step cX7_step 1 none 0 := ⟨uW_3 (i := 72) rfl rfl, uW_3 (i := 69) rfl rfl, uW_3 (i := 70) rfl rfl, uW_3 (i := 71) rfl rfl, uW_1 (i := 2) rfl rfl, ⟨by decide +kernel, by decide +kernel, by decide +kernel⟩⟩
theorem kc_X7_37 : LV RX7 37 yX7_readOne cX7_readOne 7 (some .int) 3 := ⟨uW_2 (i := 175) rfl rfl, uW_2 (i := 172) rfl rfl, uW_2 (i := 174) rfl rfl, uW_s (q := (⟨"FireTax$Tokens", "readOne", "([III)I"⟩, _)) (List.mem_of_getElem? (i := 1) rfl) rfl, uW_1 (i := 2) rfl rfl, ⟨by decide +kernel, by decide +kernel, by decide +kernel⟩⟩
theorem kc_X5_67 : LV RX5 67 yX5_readFact cX5_readFact 4 (some .boolean) 1 := ⟨uW_3 (i := 186) rfl rfl, uW_3 (i := 183) rfl rfl, uW_3 (i := 185) rfl rfl, uW_s (q := (⟨"FireTax$RuleReader", "readFact", "(I)Z"⟩, _)) (List.mem_of_getElem? (i := 16) rfl) rfl, uW_1 (i := 5) rfl rfl, ⟨by decide +kernel, by decide +kernel, by decide +kernel⟩⟩
theorem kc_X5_60 : LV RX5 60 yX5_readPart cX5_readPart 3 (some .boolean) 1 := ⟨uW_3 (i := 182) rfl rfl, uW_3 (i := 179) rfl rfl, uW_3 (i := 181) rfl rfl, uW_s (q := (⟨"FireTax$RuleReader", "readPart", "(I)Z"⟩, _)) (List.mem_of_getElem? (i := 15) rfl) rfl, uW_1 (i := 5) rfl rfl, ⟨by decide +kernel, by decide +kernel, by decide +kernel⟩⟩
theorem kc_X5_51 : LV RX5 51 yX5_readTest cX5_readTest 3 (some .boolean) 1 := ⟨uW_3 (i := 178) rfl rfl, uW_3 (i := 175) rfl rfl, uW_3 (i := 177) rfl rfl, uW_s (q := (⟨"FireTax$RuleReader", "readTest", "(I)Z"⟩, _)) (List.mem_of_getElem? (i := 14) rfl) rfl, uW_1 (i := 5) rfl rfl, ⟨by decide +kernel, by decide +kernel, by decide +kernel⟩⟩
theorem kc_X5_70 : LV RX5 70 yX5_readWithin cX5_readWithin 3 (some .boolean) 2 := ⟨uW_3 (i := 190) rfl rfl, uW_3 (i := 187) rfl rfl, uW_3 (i := 189) rfl rfl, uW_s (q := (⟨"FireTax$RuleReader", "readWithin", "(II)Z"⟩, _)) (List.mem_of_getElem? (i := 17) rfl) rfl, uW_1 (i := 5) rfl rfl, ⟨by decide +kernel, by decide +kernel, by decide +kernel⟩⟩
theorem kc_X5_36 : LV RX5 36 yX5_readSum cX5_readSum 5 (some .boolean) 0 := ⟨uW_3 (i := 162) rfl rfl, uW_3 (i := 159) rfl rfl, uW_3 (i := 161) rfl rfl, uW_s (q := (⟨"FireTax$RuleReader", "readSum", "()Z"⟩, _)) (List.mem_of_getElem? (i := 12) rfl) rfl, uW_1 (i := 5) rfl rfl, ⟨by decide +kernel, by decide +kernel, by decide +kernel⟩⟩
theorem kc_X5_74 : LV RX5 74 yX5_readSign cX5_readSign 1 (some .boolean) 0 := ⟨uW_3 (i := 194) rfl rfl, uW_3 (i := 191) rfl rfl, uW_3 (i := 193) rfl rfl, uW_s (q := (⟨"FireTax$RuleReader", "readSign", "()Z"⟩, _)) (List.mem_of_getElem? (i := 18) rfl) rfl, uW_1 (i := 5) rfl rfl, ⟨by decide +kernel, by decide +kernel, by decide +kernel⟩⟩
theorem kc_X5_29 : LV RX5 29 yX4_clear cX4_clear 1 none 0 := ⟨uW_3 (i := 149) rfl rfl, uW_3 (i := 146) rfl rfl, uW_3 (i := 147) rfl rfl, uW_3 (i := 148) rfl rfl, uW_1 (i := 6) rfl rfl, ⟨by decide +kernel, by decide +kernel, by decide +kernel⟩⟩
theorem kc_X5_32 : LV RX5 32 yX5_readHead cX5_readHead 2 (some .boolean) 1 := ⟨uW_3 (i := 153) rfl rfl, uW_3 (i := 150) rfl rfl, uW_3 (i := 152) rfl rfl, uW_s (q := (⟨"FireTax$RuleReader", "readHead", "(I)Z"⟩, _)) (List.mem_of_getElem? (i := 10) rfl) rfl, uW_1 (i := 5) rfl rfl, ⟨by decide +kernel, by decide +kernel, by decide +kernel⟩⟩
theorem kc_X5_40 : LV RX5 40 yX4_endSum cX4_endSum 1 none 0 := ⟨uW_3 (i := 174) rfl rfl, uW_3 (i := 171) rfl rfl, uW_3 (i := 172) rfl rfl, uW_3 (i := 173) rfl rfl, uW_1 (i := 6) rfl rfl, ⟨by decide +kernel, by decide +kernel, by decide +kernel⟩⟩
theorem kc_X5_54 : LV RX5 54 yX4_endClause cX4_endClause 1 none 0 := ⟨uW_3 (i := 198) rfl rfl, uW_3 (i := 195) rfl rfl, uW_3 (i := 196) rfl rfl, uW_3 (i := 197) rfl rfl, uW_1 (i := 6) rfl rfl, ⟨by decide +kernel, by decide +kernel, by decide +kernel⟩⟩
theorem kc_X9_94 : LV RX9 94 yX9_putBytes cX9_putBytes 3 none 1 := ⟨uW_2 (i := 159) rfl rfl, uW_2 (i := 156) rfl rfl, uW_2 (i := 158) rfl rfl, uW_s (q := (⟨"FireTax", "putBytes", "(I)V"⟩, _)) (List.mem_of_getElem? (i := 0) rfl) rfl, uW_1 (i := 1) rfl rfl, ⟨by decide +kernel, by decide +kernel, by decide +kernel⟩⟩
theorem kc_X9_98 : LV RX9 98 yX7_read cX7_read 5 none 2 := ⟨uW_2 (i := 171) rfl rfl, uW_2 (i := 168) rfl rfl, uW_2 (i := 169) rfl rfl, uW_2 (i := 170) rfl rfl, uW_1 (i := 2) rfl rfl, ⟨by decide +kernel, by decide +kernel, by decide +kernel⟩⟩
theorem kc_X9_102 : LV RX9 102 yX0_read cX0_read 2 (some .int) 0 := ⟨uW_3 (i := 76) rfl rfl, uW_3 (i := 73) rfl rfl, uW_3 (i := 74) rfl rfl, uW_3 (i := 75) rfl rfl, uW_1 (i := 3) rfl rfl, ⟨by decide +kernel, by decide +kernel, by decide +kernel⟩⟩
theorem kc_X9_108 : LV RX9 108 yX2_settle cX2_settle 2 none 1 := ⟨uW_3 (i := 128) rfl rfl, uW_3 (i := 125) rfl rfl, uW_3 (i := 126) rfl rfl, uW_3 (i := 127) rfl rfl, uW_1 (i := 7) rfl rfl, ⟨by decide +kernel, by decide +kernel, by decide +kernel⟩⟩
theorem kc_X9_124 : LV RX9 124 yX9_isHouse cX9_isHouse 2 (some .boolean) 1 := ⟨uW_3 (i := 214) rfl rfl, uW_3 (i := 211) rfl rfl, uW_3 (i := 213) rfl rfl, uW_s (q := (⟨"FireTax", "isHouse", "(I)Z"⟩, _)) (List.mem_of_getElem? (i := 19) rfl) rfl, uW_1 (i := 1) rfl rfl, ⟨by decide +kernel, by decide +kernel, by decide +kernel⟩⟩
theorem kc_X9_134 : LV RX9 134 yX9_isFrozen cX9_isFrozen 2 (some .boolean) 1 := ⟨uW_3 (i := 218) rfl rfl, uW_3 (i := 215) rfl rfl, uW_3 (i := 217) rfl rfl, uW_s (q := (⟨"FireTax", "isFrozen", "(I)Z"⟩, _)) (List.mem_of_getElem? (i := 20) rfl) rfl, uW_1 (i := 1) rfl rfl, ⟨by decide +kernel, by decide +kernel, by decide +kernel⟩⟩
theorem kc_X9_140 : LV RX9 140 yX9_isOfficer cX9_isOfficer 2 (some .boolean) 1 := ⟨uW_3 (i := 226) rfl rfl, uW_3 (i := 223) rfl rfl, uW_3 (i := 225) rfl rfl, uW_s (q := (⟨"FireTax", "isOfficer", "(I)Z"⟩, _)) (List.mem_of_getElem? (i := 21) rfl) rfl, uW_1 (i := 1) rfl rfl, ⟨by decide +kernel, by decide +kernel, by decide +kernel⟩⟩
theorem kc_X9_150 : LV RX9 150 yX2_remember cX2_remember 1 none 0 := ⟨uW_3 (i := 234) rfl rfl, uW_3 (i := 231) rfl rfl, uW_3 (i := 232) rfl rfl, uW_3 (i := 233) rfl rfl, uW_1 (i := 7) rfl rfl, ⟨by decide +kernel, by decide +kernel, by decide +kernel⟩⟩
theorem kc_X9_153 : LV RX9 153 yX9_ruleAt cX9_ruleAt 2 (some (.object "FireTax$Rule")) 1 := ⟨uW_3 (i := 238) rfl rfl, uW_3 (i := 235) rfl rfl, uW_3 (i := 237) rfl rfl, uW_s (q := (⟨"FireTax", "ruleAt", "(I)LFireTax$Rule;"⟩, _)) (List.mem_of_getElem? (i := 22) rfl) rfl, uW_1 (i := 1) rfl rfl, ⟨by decide +kernel, by decide +kernel, by decide +kernel⟩⟩
theorem kc_X9_157 : LV RX9 157 yX8_follow cX8_follow 2 none 1 := ⟨uW_4 (i := 2) rfl rfl, uW_3 (i := 239) rfl rfl, uW_4 (i := 0) rfl rfl, uW_4 (i := 1) rfl rfl, uW_1 (i := 8) rfl rfl, ⟨by decide +kernel, by decide +kernel, by decide +kernel⟩⟩
theorem kc_X9_161 : LV RX9 161 yX8_pass cX8_pass 6 (some .int) 2 := ⟨uW_4 (i := 6) rfl rfl, uW_4 (i := 3) rfl rfl, uW_4 (i := 4) rfl rfl, uW_4 (i := 5) rfl rfl, uW_1 (i := 8) rfl rfl, ⟨by decide +kernel, by decide +kernel, by decide +kernel⟩⟩
theorem kc_X9_165 : LV RX9 165 yX9_areBeside cX9_areBeside 3 (some .boolean) 2 := ⟨uW_4 (i := 70) rfl rfl, uW_4 (i := 67) rfl rfl, uW_4 (i := 69) rfl rfl, uW_s (q := (⟨"FireTax", "areBeside", "(II)Z"⟩, _)) (List.mem_of_getElem? (i := 27) rfl) rfl, uW_1 (i := 1) rfl rfl, ⟨by decide +kernel, by decide +kernel, by decide +kernel⟩⟩
theorem kc_X9_169 : LSt RX9 169 yX9_moveWarmth cX9_moveWarmth 4 none 4 := ⟨uW_4 (i := 73) rfl rfl, uW_4 (i := 71) rfl rfl, uW_4 (i := 72) rfl rfl, uW_1 (i := 1) rfl rfl, ⟨by decide +kernel, by decide +kernel, by decide +kernel⟩⟩
theorem kc_X9_176 : LV RX9 176 yX8_room cX8_room 3 (some .int) 2 := ⟨uW_4 (i := 26) rfl rfl, uW_4 (i := 83) rfl rfl, uW_4 (i := 24) rfl rfl, uW_4 (i := 25) rfl rfl, uW_1 (i := 8) rfl rfl, ⟨by decide +kernel, by decide +kernel, by decide +kernel⟩⟩
theorem kc_X9_187 : LV RX9 187 yX2_takeBack cX2_takeBack 1 (some .boolean) 0 := ⟨uW_4 (i := 96) rfl rfl, uW_4 (i := 93) rfl rfl, uW_4 (i := 94) rfl rfl, uW_4 (i := 95) rfl rfl, uW_1 (i := 7) rfl rfl, ⟨by decide +kernel, by decide +kernel, by decide +kernel⟩⟩
theorem kc_X9_194 : LV RX9 194 yX9_startTrial cX9_startTrial 1 none 0 := ⟨uW_4 (i := 104) rfl rfl, uW_4 (i := 101) rfl rfl, uW_4 (i := 103) rfl rfl, uW_s (q := (⟨"FireTax", "startTrial", "()V"⟩, _)) (List.mem_of_getElem? (i := 28) rfl) rfl, uW_1 (i := 1) rfl rfl, ⟨by decide +kernel, by decide +kernel, by decide +kernel⟩⟩
theorem kc_X9_197 : LSt RX9 197 yJ6_bitCount_0f7a4 cJ6_bitCount_0f7a4 1 (some .int) 1 := ⟨uW_4 (i := 30) rfl rfl, uW_4 (i := 106) rfl rfl, uW_4 (i := 29) rfl rfl, uW_1 (i := 19) rfl rfl, ⟨by decide +kernel, by decide +kernel, by decide +kernel⟩⟩
theorem kc_X9_203 : LV RX9 203 yX3_explore cX3_explore 4 none 3 := ⟨uW_4 (i := 118) rfl rfl, uW_4 (i := 115) rfl rfl, uW_4 (i := 116) rfl rfl, uW_4 (i := 117) rfl rfl, uW_1 (i := 9) rfl rfl, ⟨by decide +kernel, by decide +kernel, by decide +kernel⟩⟩
theorem kc_X9_219 : LSt RX9 219 yX9_isTrialLength cX9_isTrialLength 1 (some .boolean) 1 := ⟨uW_4 (i := 144) rfl rfl, uW_4 (i := 142) rfl rfl, uW_4 (i := 143) rfl rfl, uW_1 (i := 1) rfl rfl, ⟨by decide +kernel, by decide +kernel, by decide +kernel⟩⟩
theorem kc_X9_222 : LV RX9 222 yX9_staysWarm cX9_staysWarm 4 (some .boolean) 2 := ⟨uW_4 (i := 148) rfl rfl, uW_4 (i := 145) rfl rfl, uW_4 (i := 147) rfl rfl, uW_s (q := (⟨"FireTax", "staysWarm", "(II)Z"⟩, _)) (List.mem_of_getElem? (i := 31) rfl) rfl, uW_1 (i := 1) rfl rfl, ⟨by decide +kernel, by decide +kernel, by decide +kernel⟩⟩
theorem kc_X9_228 : LV RX9 228 yX9_allWarmth cX9_allWarmth 3 (some .int) 0 := ⟨uW_4 (i := 160) rfl rfl, uW_4 (i := 157) rfl rfl, uW_4 (i := 159) rfl rfl, uW_s (q := (⟨"FireTax", "allWarmth", "()I"⟩, _)) (List.mem_of_getElem? (i := 32) rfl) rfl, uW_1 (i := 1) rfl rfl, ⟨by decide +kernel, by decide +kernel, by decide +kernel⟩⟩
theorem kc_X9_234 : LV RX9 234 yX9_lanesBetween cX9_lanesBetween 7 (some .int) 2 := ⟨uW_4 (i := 168) rfl rfl, uW_4 (i := 165) rfl rfl, uW_4 (i := 167) rfl rfl, uW_s (q := (⟨"FireTax", "lanesBetween", "(II)I"⟩, _)) (List.mem_of_getElem? (i := 33) rfl) rfl, uW_1 (i := 1) rfl rfl, ⟨by decide +kernel, by decide +kernel, by decide +kernel⟩⟩
theorem kc_X9_237 : LV RX9 237 yX9_hiddenIn cX9_hiddenIn 4 (some .int) 1 := ⟨uW_4 (i := 176) rfl rfl, uW_4 (i := 173) rfl rfl, uW_4 (i := 175) rfl rfl, uW_s (q := (⟨"FireTax", "hiddenIn", "(I)I"⟩, _)) (List.mem_of_getElem? (i := 34) rfl) rfl, uW_1 (i := 1) rfl rfl, ⟨by decide +kernel, by decide +kernel, by decide +kernel⟩⟩
theorem kc_X9_243 : LSt RX9 243 yX9_isBookNight cX9_isBookNight 1 (some .boolean) 1 := ⟨uW_4 (i := 187) rfl rfl, uW_4 (i := 185) rfl rfl, uW_4 (i := 186) rfl rfl, uW_1 (i := 1) rfl rfl, ⟨by decide +kernel, by decide +kernel, by decide +kernel⟩⟩
theorem kc_X9_246 : LV RX9 246 yX2_addBook cX2_addBook 4 none 3 := ⟨uW_4 (i := 191) rfl rfl, uW_4 (i := 188) rfl rfl, uW_4 (i := 189) rfl rfl, uW_4 (i := 190) rfl rfl, uW_1 (i := 7) rfl rfl, ⟨by decide +kernel, by decide +kernel, by decide +kernel⟩⟩
theorem kc_X9_250 : LV RX9 250 yX6_fits cX6_fits 4 (some .boolean) 1 := ⟨uW_4 (i := 199) rfl rfl, uW_4 (i := 196) rfl rfl, uW_4 (i := 197) rfl rfl, uW_4 (i := 198) rfl rfl, uW_1 (i := 10) rfl rfl, ⟨by decide +kernel, by decide +kernel, by decide +kernel⟩⟩
theorem kc_X9_254 : LV RX9 254 yX6_clear cX6_clear 1 none 0 := ⟨uW_4 (i := 223) rfl rfl, uW_4 (i := 220) rfl rfl, uW_4 (i := 221) rfl rfl, uW_4 (i := 222) rfl rfl, uW_1 (i := 10) rfl rfl, ⟨by decide +kernel, by decide +kernel, by decide +kernel⟩⟩
theorem kc_X9_264 : LV RX9 264 yX6_mostAlike cX6_mostAlike 6 (some .int) 1 := ⟨uW_4 (i := 231) rfl rfl, uW_4 (i := 228) rfl rfl, uW_4 (i := 229) rfl rfl, uW_4 (i := 230) rfl rfl, uW_1 (i := 10) rfl rfl, ⟨by decide +kernel, by decide +kernel, by decide +kernel⟩⟩
theorem kc_X9_257 : LV RX9 257 yX6_add cX6_add 4 none 2 := ⟨uW_4 (i := 227) rfl rfl, uW_4 (i := 224) rfl rfl, uW_4 (i := 225) rfl rfl, uW_4 (i := 226) rfl rfl, uW_1 (i := 10) rfl rfl, ⟨by decide +kernel, by decide +kernel, by decide +kernel⟩⟩
theorem kc_X9_270 : LSt RX9 270 yX9_nextDraw cX9_nextDraw 2 (some .long) 1 := ⟨uW_5 (i := 2) rfl rfl, uW_5 (i := 0) rfl rfl, uW_5 (i := 1) rfl rfl, uW_1 (i := 1) rfl rfl, ⟨by decide +kernel, by decide +kernel, by decide +kernel⟩⟩
theorem kc_X9_285 : LV RX9 285 yX1_hasSnow cX1_hasSnow 3 (some .boolean) 1 := ⟨uW_4 (i := 57) rfl rfl, uW_5 (i := 12) rfl rfl, uW_4 (i := 55) rfl rfl, uW_4 (i := 56) rfl rfl, uW_1 (i := 4) rfl rfl, ⟨by decide +kernel, by decide +kernel, by decide +kernel⟩⟩
theorem kc_X9_288 : LV RX9 288 yX2_copyFrom cX2_copyFrom 2 none 1 := ⟨uW_5 (i := 20) rfl rfl, uW_5 (i := 17) rfl rfl, uW_5 (i := 18) rfl rfl, uW_5 (i := 19) rfl rfl, uW_1 (i := 7) rfl rfl, ⟨by decide +kernel, by decide +kernel, by decide +kernel⟩⟩
