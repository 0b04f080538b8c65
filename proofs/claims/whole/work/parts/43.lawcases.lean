theorem kc_L_13 : LV "FireTaxLaw" 13 yX9_feed cX9_feed 6 (some .int) 5 := ⟨uW_2 (i := 155) rfl rfl, uW_2 (i := 152) rfl rfl, uW_2 (i := 153) rfl rfl, uW_2 (i := 154) rfl rfl, uW_1 (i := 1) rfl rfl, ⟨by decide +kernel, by decide +kernel, by decide +kernel⟩⟩
theorem kc_L_17 : LV "FireTaxLaw" 17 yX10_feed cX10_feed 6 (some .int) 5 := ⟨uW_5 (i := 224) rfl rfl, uW_5 (i := 221) rfl rfl, uW_5 (i := 222) rfl rfl, uW_5 (i := 223) rfl rfl, uW_1 (i := 11) rfl rfl, ⟨by decide +kernel, by decide +kernel, by decide +kernel⟩⟩
theorem kc_L_18 : LV "FireTaxLaw" 18 yX9_end cX9_end 2 (some .int) 1 := ⟨uW_2 (i := 163) rfl rfl, uW_2 (i := 160) rfl rfl, uW_2 (i := 161) rfl rfl, uW_2 (i := 162) rfl rfl, uW_1 (i := 1) rfl rfl, ⟨by decide +kernel, by decide +kernel, by decide +kernel⟩⟩
theorem kc_L_22 : LV "FireTaxLaw" 22 yX10_end cX10_end 2 (some .int) 1 := ⟨uW_5 (i := 232) rfl rfl, uW_5 (i := 229) rfl rfl, uW_5 (i := 230) rfl rfl, uW_5 (i := 231) rfl rfl, uW_1 (i := 11) rfl rfl, ⟨by decide +kernel, by decide +kernel, by decide +kernel⟩⟩
theorem kc_L_23 : LV "FireTaxLaw" 23 yX9_duchy cX9_duchy 2 (some .int) 0 := ⟨uW_2 (i := 167) rfl rfl, uW_2 (i := 164) rfl rfl, uW_2 (i := 165) rfl rfl, uW_2 (i := 166) rfl rfl, uW_1 (i := 1) rfl rfl, ⟨by decide +kernel, by decide +kernel, by decide +kernel⟩⟩
theorem kc_L_27 : LV "FireTaxLaw" 27 yX10_duchy cX10_duchy 2 (some .int) 0 := ⟨uW_5 (i := 236) rfl rfl, uW_5 (i := 233) rfl rfl, uW_5 (i := 234) rfl rfl, uW_5 (i := 235) rfl rfl, uW_1 (i := 11) rfl rfl, ⟨by decide +kernel, by decide +kernel, by decide +kernel⟩⟩
theorem kc_L_28 : LV "FireTaxLaw" 28 yX9_rule cX9_rule 2 (some .int) 0 := ⟨uW_3 (i := 141) rfl rfl, uW_3 (i := 138) rfl rfl, uW_3 (i := 139) rfl rfl, uW_3 (i := 140) rfl rfl, uW_1 (i := 1) rfl rfl, ⟨by decide +kernel, by decide +kernel, by decide +kernel⟩⟩
theorem kc_L_31 : LV "FireTaxLaw" 31 yX10_rule cX10_rule 3 (some .int) 0 := ⟨uW_6 (i := 87) rfl rfl, uW_6 (i := 84) rfl rfl, uW_6 (i := 85) rfl rfl, uW_6 (i := 86) rfl rfl, uW_1 (i := 11) rfl rfl, ⟨by decide +kernel, by decide +kernel, by decide +kernel⟩⟩
theorem kc_L_32 : LV "FireTaxLaw" 32 yX9_force cX9_force 3 (some .int) 1 := ⟨uW_3 (i := 206) rfl rfl, uW_3 (i := 203) rfl rfl, uW_3 (i := 204) rfl rfl, uW_3 (i := 205) rfl rfl, uW_1 (i := 1) rfl rfl, ⟨by decide +kernel, by decide +kernel, by decide +kernel⟩⟩
theorem kc_L_35 : LV "FireTaxLaw" 35 yX10_force cX10_force 3 (some .int) 1 := ⟨uW_6 (i := 161) rfl rfl, uW_6 (i := 158) rfl rfl, uW_6 (i := 159) rfl rfl, uW_6 (i := 160) rfl rfl, uW_1 (i := 11) rfl rfl, ⟨by decide +kernel, by decide +kernel, by decide +kernel⟩⟩
theorem kc_L_36 : LV "FireTaxLaw" 36 yX9_house cX9_house 3 (some .int) 2 := ⟨uW_3 (i := 210) rfl rfl, uW_3 (i := 207) rfl rfl, uW_3 (i := 208) rfl rfl, uW_3 (i := 209) rfl rfl, uW_1 (i := 1) rfl rfl, ⟨by decide +kernel, by decide +kernel, by decide +kernel⟩⟩
theorem kc_L_40 : LV "FireTaxLaw" 40 yX10_house cX10_house 3 (some .int) 2 := ⟨uW_6 (i := 166) rfl rfl, uW_6 (i := 163) rfl rfl, uW_6 (i := 164) rfl rfl, uW_6 (i := 165) rfl rfl, uW_1 (i := 11) rfl rfl, ⟨by decide +kernel, by decide +kernel, by decide +kernel⟩⟩
theorem kc_L_41 : LV "FireTaxLaw" 41 yX9_officer cX9_officer 3 (some .int) 2 := ⟨uW_3 (i := 222) rfl rfl, uW_3 (i := 219) rfl rfl, uW_3 (i := 220) rfl rfl, uW_3 (i := 221) rfl rfl, uW_1 (i := 1) rfl rfl, ⟨by decide +kernel, by decide +kernel, by decide +kernel⟩⟩
theorem kc_L_44 : LV "FireTaxLaw" 44 yX10_officer cX10_officer 3 (some .int) 2 := ⟨uW_6 (i := 178) rfl rfl, uW_6 (i := 175) rfl rfl, uW_6 (i := 176) rfl rfl, uW_6 (i := 177) rfl rfl, uW_1 (i := 11) rfl rfl, ⟨by decide +kernel, by decide +kernel, by decide +kernel⟩⟩
theorem kc_L_45 : LV "FireTaxLaw" 45 yX9_night cX9_night 1 (some .int) 0 := ⟨uW_3 (i := 230) rfl rfl, uW_3 (i := 227) rfl rfl, uW_3 (i := 228) rfl rfl, uW_3 (i := 229) rfl rfl, uW_1 (i := 1) rfl rfl, ⟨by decide +kernel, by decide +kernel, by decide +kernel⟩⟩
theorem kc_L_48 : LV "FireTaxLaw" 48 yX10_night cX10_night 1 (some .int) 0 := ⟨uW_6 (i := 202) rfl rfl, uW_6 (i := 199) rfl rfl, uW_6 (i := 200) rfl rfl, uW_6 (i := 201) rfl rfl, uW_1 (i := 11) rfl rfl, ⟨by decide +kernel, by decide +kernel, by decide +kernel⟩⟩
theorem kc_L_49 : LV "FireTaxLaw" 49 yX9_fell cX9_fell 3 (some .int) 2 := ⟨uW_4 (i := 62) rfl rfl, uW_4 (i := 59) rfl rfl, uW_4 (i := 60) rfl rfl, uW_4 (i := 61) rfl rfl, uW_1 (i := 1) rfl rfl, ⟨by decide +kernel, by decide +kernel, by decide +kernel⟩⟩
theorem kc_L_52 : LV "FireTaxLaw" 52 yX10_fell cX10_fell 3 (some .int) 2 := ⟨uW_7 (i := 20) rfl rfl, uW_7 (i := 17) rfl rfl, uW_7 (i := 18) rfl rfl, uW_7 (i := 19) rfl rfl, uW_1 (i := 11) rfl rfl, ⟨by decide +kernel, by decide +kernel, by decide +kernel⟩⟩
theorem kc_L_53 : LV "FireTaxLaw" 53 yX9_lend cX9_lend 5 (some .int) 3 := ⟨uW_4 (i := 66) rfl rfl, uW_4 (i := 63) rfl rfl, uW_4 (i := 64) rfl rfl, uW_4 (i := 65) rfl rfl, uW_1 (i := 1) rfl rfl, ⟨by decide +kernel, by decide +kernel, by decide +kernel⟩⟩
theorem kc_L_57 : LV "FireTaxLaw" 57 yX10_lend cX10_lend 4 (some .int) 3 := ⟨uW_7 (i := 25) rfl rfl, uW_7 (i := 22) rfl rfl, uW_7 (i := 23) rfl rfl, uW_7 (i := 24) rfl rfl, uW_1 (i := 11) rfl rfl, ⟨by decide +kernel, by decide +kernel, by decide +kernel⟩⟩
theorem kc_L_58 : LV "FireTaxLaw" 58 yX9_hide cX9_hide 3 (some .int) 2 := ⟨uW_4 (i := 78) rfl rfl, uW_4 (i := 75) rfl rfl, uW_4 (i := 76) rfl rfl, uW_4 (i := 77) rfl rfl, uW_1 (i := 1) rfl rfl, ⟨by decide +kernel, by decide +kernel, by decide +kernel⟩⟩
theorem kc_L_61 : LV "FireTaxLaw" 61 yX10_hide cX10_hide 3 (some .int) 2 := ⟨uW_7 (i := 36) rfl rfl, uW_7 (i := 33) rfl rfl, uW_7 (i := 34) rfl rfl, uW_7 (i := 35) rfl rfl, uW_1 (i := 11) rfl rfl, ⟨by decide +kernel, by decide +kernel, by decide +kernel⟩⟩
theorem kc_L_62 : LV "FireTaxLaw" 62 yX9_lift cX9_lift 5 (some .int) 1 := ⟨uW_4 (i := 82) rfl rfl, uW_4 (i := 79) rfl rfl, uW_4 (i := 80) rfl rfl, uW_4 (i := 81) rfl rfl, uW_1 (i := 1) rfl rfl, ⟨by decide +kernel, by decide +kernel, by decide +kernel⟩⟩
theorem kc_L_65 : LV "FireTaxLaw" 65 yX10_lift cX10_lift 5 (some .int) 1 := ⟨uW_7 (i := 40) rfl rfl, uW_7 (i := 37) rfl rfl, uW_7 (i := 38) rfl rfl, uW_7 (i := 39) rfl rfl, uW_1 (i := 11) rfl rfl, ⟨by decide +kernel, by decide +kernel, by decide +kernel⟩⟩
theorem kc_L_66 : LV "FireTaxLaw" 66 yX9_spit cX9_spit 2 (some .int) 1 := ⟨uW_4 (i := 87) rfl rfl, uW_4 (i := 84) rfl rfl, uW_4 (i := 85) rfl rfl, uW_4 (i := 86) rfl rfl, uW_1 (i := 1) rfl rfl, ⟨by decide +kernel, by decide +kernel, by decide +kernel⟩⟩
theorem kc_L_69 : LV "FireTaxLaw" 69 yX10_spit cX10_spit 3 (some .int) 1 := ⟨uW_7 (i := 44) rfl rfl, uW_7 (i := 41) rfl rfl, uW_7 (i := 42) rfl rfl, uW_7 (i := 43) rfl rfl, uW_1 (i := 11) rfl rfl, ⟨by decide +kernel, by decide +kernel, by decide +kernel⟩⟩
theorem kc_L_70 : LV "FireTaxLaw" 70 yX9_undo cX9_undo 1 (some .int) 0 := ⟨uW_4 (i := 92) rfl rfl, uW_4 (i := 89) rfl rfl, uW_4 (i := 90) rfl rfl, uW_4 (i := 91) rfl rfl, uW_1 (i := 1) rfl rfl, ⟨by decide +kernel, by decide +kernel, by decide +kernel⟩⟩
theorem kc_L_73 : LV "FireTaxLaw" 73 yX10_undo cX10_undo 1 (some .int) 0 := ⟨uW_6 (i := 186) rfl rfl, uW_6 (i := 183) rfl rfl, uW_6 (i := 184) rfl rfl, uW_6 (i := 185) rfl rfl, uW_1 (i := 11) rfl rfl, ⟨by decide +kernel, by decide +kernel, by decide +kernel⟩⟩
theorem kc_L_74 : LV "FireTaxLaw" 74 yX9_ahead cX9_ahead 6 (some .int) 3 := ⟨uW_4 (i := 100) rfl rfl, uW_4 (i := 97) rfl rfl, uW_4 (i := 98) rfl rfl, uW_4 (i := 99) rfl rfl, uW_1 (i := 1) rfl rfl, ⟨by decide +kernel, by decide +kernel, by decide +kernel⟩⟩
theorem kc_L_77 : LV "FireTaxLaw" 77 yX10_ahead cX10_ahead 6 (some .int) 3 := ⟨uW_7 (i := 48) rfl rfl, uW_7 (i := 45) rfl rfl, uW_7 (i := 46) rfl rfl, uW_7 (i := 47) rfl rfl, uW_1 (i := 11) rfl rfl, ⟨by decide +kernel, by decide +kernel, by decide +kernel⟩⟩
theorem kc_L_78 : LV "FireTaxLaw" 78 yX9_freezes cX9_freezes 4 (some .int) 1 := ⟨uW_4 (i := 110) rfl rfl, uW_4 (i := 107) rfl rfl, uW_4 (i := 108) rfl rfl, uW_4 (i := 109) rfl rfl, uW_1 (i := 1) rfl rfl, ⟨by decide +kernel, by decide +kernel, by decide +kernel⟩⟩
theorem kc_L_81 : LV "FireTaxLaw" 81 yX10_freezes cX10_freezes 4 (some .int) 1 := ⟨uW_7 (i := 73) rfl rfl, uW_7 (i := 70) rfl rfl, uW_7 (i := 71) rfl rfl, uW_7 (i := 72) rfl rfl, uW_1 (i := 11) rfl rfl, ⟨by decide +kernel, by decide +kernel, by decide +kernel⟩⟩
theorem kc_L_82 : LV "FireTaxLaw" 82 yX9_round cX9_round 4 (some .int) 3 := ⟨uW_4 (i := 114) rfl rfl, uW_4 (i := 111) rfl rfl, uW_4 (i := 112) rfl rfl, uW_4 (i := 113) rfl rfl, uW_1 (i := 1) rfl rfl, ⟨by decide +kernel, by decide +kernel, by decide +kernel⟩⟩
theorem kc_L_85 : LV "FireTaxLaw" 85 yX10_round cX10_round 8 (some .int) 3 := ⟨uW_7 (i := 77) rfl rfl, uW_7 (i := 74) rfl rfl, uW_7 (i := 75) rfl rfl, uW_7 (i := 76) rfl rfl, uW_1 (i := 11) rfl rfl, ⟨by decide +kernel, by decide +kernel, by decide +kernel⟩⟩
theorem kc_L_86 : LV "FireTaxLaw" 86 yX9_span cX9_span 4 (some .int) 3 := ⟨uW_4 (i := 137) rfl rfl, uW_4 (i := 134) rfl rfl, uW_4 (i := 135) rfl rfl, uW_4 (i := 136) rfl rfl, uW_1 (i := 1) rfl rfl, ⟨by decide +kernel, by decide +kernel, by decide +kernel⟩⟩
theorem kc_L_89 : LV "FireTaxLaw" 89 yX10_span cX10_span 8 (some .int) 3 := ⟨uW_7 (i := 91) rfl rfl, uW_7 (i := 88) rfl rfl, uW_7 (i := 89) rfl rfl, uW_7 (i := 90) rfl rfl, uW_1 (i := 11) rfl rfl, ⟨by decide +kernel, by decide +kernel, by decide +kernel⟩⟩
theorem kc_L_90 : LV "FireTaxLaw" 90 yX9_logs cX9_logs 4 (some .int) 2 := ⟨uW_4 (i := 141) rfl rfl, uW_4 (i := 138) rfl rfl, uW_4 (i := 139) rfl rfl, uW_4 (i := 140) rfl rfl, uW_1 (i := 1) rfl rfl, ⟨by decide +kernel, by decide +kernel, by decide +kernel⟩⟩
theorem kc_L_93 : LV "FireTaxLaw" 93 yX10_logs cX10_logs 5 (some .int) 2 := ⟨uW_7 (i := 95) rfl rfl, uW_7 (i := 92) rfl rfl, uW_7 (i := 93) rfl rfl, uW_7 (i := 94) rfl rfl, uW_1 (i := 11) rfl rfl, ⟨by decide +kernel, by decide +kernel, by decide +kernel⟩⟩
theorem kc_L_94 : LV "FireTaxLaw" 94 yX9_rate cX9_rate 4 (some .int) 1 := ⟨uW_4 (i := 152) rfl rfl, uW_4 (i := 149) rfl rfl, uW_4 (i := 150) rfl rfl, uW_4 (i := 151) rfl rfl, uW_1 (i := 1) rfl rfl, ⟨by decide +kernel, by decide +kernel, by decide +kernel⟩⟩
theorem kc_L_97 : LV "FireTaxLaw" 97 yX10_rate cX10_rate 5 (some .int) 1 := ⟨uW_7 (i := 100) rfl rfl, uW_7 (i := 97) rfl rfl, uW_7 (i := 98) rfl rfl, uW_7 (i := 99) rfl rfl, uW_1 (i := 11) rfl rfl, ⟨by decide +kernel, by decide +kernel, by decide +kernel⟩⟩
theorem kc_L_98 : LV "FireTaxLaw" 98 yX9_levy cX9_levy 9 (some .int) 2 := ⟨uW_4 (i := 156) rfl rfl, uW_4 (i := 153) rfl rfl, uW_4 (i := 154) rfl rfl, uW_4 (i := 155) rfl rfl, uW_1 (i := 1) rfl rfl, ⟨by decide +kernel, by decide +kernel, by decide +kernel⟩⟩
theorem kc_L_101 : LV "FireTaxLaw" 101 yX10_levy cX10_levy 8 (some .int) 2 := ⟨uW_7 (i := 108) rfl rfl, uW_7 (i := 105) rfl rfl, uW_7 (i := 106) rfl rfl, uW_7 (i := 107) rfl rfl, uW_1 (i := 11) rfl rfl, ⟨by decide +kernel, by decide +kernel, by decide +kernel⟩⟩
theorem kc_L_102 : LV "FireTaxLaw" 102 yX9_district cX9_district 7 (some .int) 2 := ⟨uW_4 (i := 164) rfl rfl, uW_4 (i := 161) rfl rfl, uW_4 (i := 162) rfl rfl, uW_4 (i := 163) rfl rfl, uW_1 (i := 1) rfl rfl, ⟨by decide +kernel, by decide +kernel, by decide +kernel⟩⟩
theorem kc_L_105 : LV "FireTaxLaw" 105 yX10_district cX10_district 7 (some .int) 2 := ⟨uW_7 (i := 117) rfl rfl, uW_7 (i := 114) rfl rfl, uW_7 (i := 115) rfl rfl, uW_7 (i := 116) rfl rfl, uW_1 (i := 11) rfl rfl, ⟨by decide +kernel, by decide +kernel, by decide +kernel⟩⟩
theorem kc_L_106 : LV "FireTaxLaw" 106 yX9_hats cX9_hats 6 (some .int) 2 := ⟨uW_4 (i := 172) rfl rfl, uW_4 (i := 169) rfl rfl, uW_4 (i := 170) rfl rfl, uW_4 (i := 171) rfl rfl, uW_1 (i := 1) rfl rfl, ⟨by decide +kernel, by decide +kernel, by decide +kernel⟩⟩
theorem kc_L_109 : LV "FireTaxLaw" 109 yX10_hats cX10_hats 7 (some .int) 2 := ⟨uW_7 (i := 125) rfl rfl, uW_7 (i := 122) rfl rfl, uW_7 (i := 123) rfl rfl, uW_7 (i := 124) rfl rfl, uW_1 (i := 11) rfl rfl, ⟨by decide +kernel, by decide +kernel, by decide +kernel⟩⟩
theorem kc_L_110 : LV "FireTaxLaw" 110 yX9_loan cX9_loan 5 (some .int) 3 := ⟨uW_4 (i := 180) rfl rfl, uW_4 (i := 177) rfl rfl, uW_4 (i := 178) rfl rfl, uW_4 (i := 179) rfl rfl, uW_1 (i := 1) rfl rfl, ⟨by decide +kernel, by decide +kernel, by decide +kernel⟩⟩
theorem kc_L_113 : LV "FireTaxLaw" 113 yX10_loan cX10_loan 7 (some .int) 3 := ⟨uW_7 (i := 104) rfl rfl, uW_7 (i := 101) rfl rfl, uW_7 (i := 102) rfl rfl, uW_7 (i := 103) rfl rfl, uW_1 (i := 11) rfl rfl, ⟨by decide +kernel, by decide +kernel, by decide +kernel⟩⟩
theorem kc_L_114 : LV "FireTaxLaw" 114 yX9_book cX9_book 4 (some .int) 3 := ⟨uW_4 (i := 184) rfl rfl, uW_4 (i := 181) rfl rfl, uW_4 (i := 182) rfl rfl, uW_4 (i := 183) rfl rfl, uW_1 (i := 1) rfl rfl, ⟨by decide +kernel, by decide +kernel, by decide +kernel⟩⟩
theorem kc_L_117 : LV "FireTaxLaw" 117 yX10_book cX10_book 5 (some .int) 3 := ⟨uW_7 (i := 130) rfl rfl, uW_7 (i := 127) rfl rfl, uW_7 (i := 128) rfl rfl, uW_7 (i := 129) rfl rfl, uW_1 (i := 11) rfl rfl, ⟨by decide +kernel, by decide +kernel, by decide +kernel⟩⟩
theorem kc_L_118 : LV "FireTaxLaw" 118 yX9_ruled cX9_ruled 5 (some .int) 1 := ⟨uW_4 (i := 195) rfl rfl, uW_4 (i := 192) rfl rfl, uW_4 (i := 193) rfl rfl, uW_4 (i := 194) rfl rfl, uW_1 (i := 1) rfl rfl, ⟨by decide +kernel, by decide +kernel, by decide +kernel⟩⟩
theorem kc_L_121 : LV "FireTaxLaw" 121 yX10_ruled cX10_ruled 5 (some .int) 1 := ⟨uW_7 (i := 135) rfl rfl, uW_7 (i := 132) rfl rfl, uW_7 (i := 133) rfl rfl, uW_7 (i := 134) rfl rfl, uW_1 (i := 11) rfl rfl, ⟨by decide +kernel, by decide +kernel, by decide +kernel⟩⟩
theorem kc_L_122 : LV "FireTaxLaw" 122 yX9_look cX9_look 5 (some .int) 2 := ⟨uW_4 (i := 219) rfl rfl, uW_4 (i := 216) rfl rfl, uW_4 (i := 217) rfl rfl, uW_4 (i := 218) rfl rfl, uW_1 (i := 1) rfl rfl, ⟨by decide +kernel, by decide +kernel, by decide +kernel⟩⟩
theorem kc_L_125 : LV "FireTaxLaw" 125 yX10_look cX10_look 6 (some .int) 2 := ⟨uW_7 (i := 143) rfl rfl, uW_7 (i := 140) rfl rfl, uW_7 (i := 141) rfl rfl, uW_7 (i := 142) rfl rfl, uW_1 (i := 11) rfl rfl, ⟨by decide +kernel, by decide +kernel, by decide +kernel⟩⟩
theorem kc_L_126 : LV "FireTaxLaw" 126 yX9_seed cX9_seed 3 (some .int) 1 := ⟨uW_4 (i := 235) rfl rfl, uW_4 (i := 232) rfl rfl, uW_4 (i := 233) rfl rfl, uW_4 (i := 234) rfl rfl, uW_1 (i := 1) rfl rfl, ⟨by decide +kernel, by decide +kernel, by decide +kernel⟩⟩
theorem kc_L_129 : LV "FireTaxLaw" 129 yX10_seed cX10_seed 3 (some .int) 1 := ⟨uW_7 (i := 151) rfl rfl, uW_7 (i := 148) rfl rfl, uW_7 (i := 149) rfl rfl, uW_7 (i := 150) rfl rfl, uW_1 (i := 11) rfl rfl, ⟨by decide +kernel, by decide +kernel, by decide +kernel⟩⟩
theorem kc_L_130 : LV "FireTaxLaw" 130 yX9_winters cX9_winters 11 (some .int) 4 := ⟨uW_4 (i := 239) rfl rfl, uW_4 (i := 236) rfl rfl, uW_4 (i := 237) rfl rfl, uW_4 (i := 238) rfl rfl, uW_1 (i := 1) rfl rfl, ⟨by decide +kernel, by decide +kernel, by decide +kernel⟩⟩
theorem kc_L_134 : LV "FireTaxLaw" 134 yX10_winters cX10_winters 11 (some .int) 4 := ⟨uW_7 (i := 155) rfl rfl, uW_7 (i := 152) rfl rfl, uW_7 (i := 153) rfl rfl, uW_7 (i := 154) rfl rfl, uW_1 (i := 11) rfl rfl, ⟨by decide +kernel, by decide +kernel, by decide +kernel⟩⟩
theorem kc_L_135 : LV "FireTaxLaw" 135 yX9_count cX9_count 2 (some .int) 1 := ⟨uW_5 (i := 11) rfl rfl, uW_5 (i := 8) rfl rfl, uW_5 (i := 9) rfl rfl, uW_5 (i := 10) rfl rfl, uW_1 (i := 1) rfl rfl, ⟨by decide +kernel, by decide +kernel, by decide +kernel⟩⟩
theorem kc_L_138 : LV "FireTaxLaw" 138 yX10_count cX10_count 2 (some .int) 1 := ⟨uW_7 (i := 168) rfl rfl, uW_7 (i := 165) rfl rfl, uW_7 (i := 166) rfl rfl, uW_7 (i := 167) rfl rfl, uW_1 (i := 11) rfl rfl, ⟨by decide +kernel, by decide +kernel, by decide +kernel⟩⟩
theorem kc_L_139 : LV "FireTaxLaw" 139 yX9_image cX9_image 2 (some .int) 1 := ⟨uW_5 (i := 16) rfl rfl, uW_5 (i := 13) rfl rfl, uW_5 (i := 14) rfl rfl, uW_5 (i := 15) rfl rfl, uW_1 (i := 1) rfl rfl, ⟨by decide +kernel, by decide +kernel, by decide +kernel⟩⟩
theorem kc_L_142 : LV "FireTaxLaw" 142 yX10_image cX10_image 2 (some .int) 1 := ⟨uW_7 (i := 172) rfl rfl, uW_7 (i := 169) rfl rfl, uW_7 (i := 170) rfl rfl, uW_7 (i := 171) rfl rfl, uW_1 (i := 11) rfl rfl, ⟨by decide +kernel, by decide +kernel, by decide +kernel⟩⟩
theorem kc_L_143 : LV "FireTaxLaw" 143 yX9_back cX9_back 2 (some .int) 1 := ⟨uW_5 (i := 24) rfl rfl, uW_5 (i := 21) rfl rfl, uW_5 (i := 22) rfl rfl, uW_5 (i := 23) rfl rfl, uW_1 (i := 1) rfl rfl, ⟨by decide +kernel, by decide +kernel, by decide +kernel⟩⟩
theorem kc_L_146 : LV "FireTaxLaw" 146 yX10_back cX10_back 2 (some .int) 1 := ⟨uW_7 (i := 176) rfl rfl, uW_7 (i := 173) rfl rfl, uW_7 (i := 174) rfl rfl, uW_7 (i := 175) rfl rfl, uW_1 (i := 11) rfl rfl, ⟨by decide +kernel, by decide +kernel, by decide +kernel⟩⟩
set_option maxRecDepth 100000 in
theorem lw_case_0 {p : Program} {l : Launch} {e : Env} {s : State} {m : MethodId} {args : Array Value} {below : List Frame} {meth : Method} {c : Code} {H : Heap} {locs : List Loc} {Q : State → Prop} {ls : Array Slot} {Ec Em : Ev} {A : Nat → Prop} {b L i ca sl : Nat} {xs : Nat → Int32} {x3 : Int32} {c0 m0 : St} {L0 : List Nat} {r : Int32} {L1 : List Nat} {c1 m1 : St} (hL : L ≤ 3072) (hX : va_X b L xs s s.heap) (hbl : b < s.heap.size) (hbA : ¬ A b) (ex : x3 = nI i) (hi : i + 6 ≤ L) (Xc : CX p s m args c Ec R_law code 4 A) (Xm : CX p s m args c Em R_law code 4 A) (hN : KN s) (hLc : ∀ k, fxC k = true → k ∈ eL Ec) (hLm : ∀ k, fxM k = true → k ∈ eL Em) (hLL : L0 = eL Ec) (G : G2 Ec Em c0 m0 A s H locs) (hC : fX9_feed (xs (i + 1)) (xs (i + 2)) (xs (i + 3)) (xs (i + 4)) (xs (i + 5)) c0 = some (r, c1)) (hM : fX10_feed (xs (i + 1)) (xs (i + 2)) (xs (i + 3)) (xs (i + 4)) (xs (i + 5)) m0 = some (r, m1)) (hca : ca + 12 ≤ 600000) (hsl : sl + 980 ≤ 7302250) (hl : lv_has ls 4 [(0, .ref b), (1, .ref (eq Ec 0)), (2, .ref (eq Em 500)), (3, .int x3)]) (kk : ∀ (E2 : Ev) (H : Heap) (locs : List Loc), Ext Ec E2 L0 → G2 E2 Em c1 m1 A s H locs → W p l e room_1 s m args below meth c H locs (ca + 12) (sl + 980) Q (F0 m 1152 ls [])) : W p l e room_1 s m args below meth c H locs ca sl Q (F0 m 176 ls []) := by
  have hx := Xc.1.1
  have hb := Xc.1.2.1
  refine lv_aload_n hx hb dL_law_176 rfl (lv_at hl 1 rfl) ?_
  refine lv_aload_n hx hb dL_law_177 rfl (lv_at hl 0 rfl) ?_
  refine lv_iload_n hx hb dL_law_178 rfl (lv_at hl 3 rfl) ?_
  refine lv_iconst (v := (1 : Int32)) hx hb dL_law_179 (by decide) ?_
  refine lv_iadd hx hb dL_law_180 ?_
  refine sld hx hb hX hbl hbA G.2.2.2 (j := 1) ex rfl (by omega) hL dL_law_181 ?_
  refine lv_aload_n hx hb dL_law_182 rfl (lv_at hl 0 rfl) ?_
  refine lv_iload_n hx hb dL_law_183 rfl (lv_at hl 3 rfl) ?_
  refine lv_iconst (v := (2 : Int32)) hx hb dL_law_184 (by decide) ?_
  refine lv_iadd hx hb dL_law_185 ?_
  refine sld hx hb hX hbl hbA G.2.2.2 (j := 2) ex rfl (by omega) hL dL_law_186 ?_
  refine lv_aload_n hx hb dL_law_187 rfl (lv_at hl 0 rfl) ?_
  refine lv_iload_n hx hb dL_law_188 rfl (lv_at hl 3 rfl) ?_
  refine lv_iconst (v := (3 : Int32)) hx hb dL_law_189 (by decide) ?_
  refine lv_iadd hx hb dL_law_190 ?_
  refine sld hx hb hX hbl hbA G.2.2.2 (j := 3) ex rfl (by omega) hL dL_law_191 ?_
  refine lv_aload_n hx hb dL_law_192 rfl (lv_at hl 0 rfl) ?_
  refine lv_iload_n hx hb dL_law_193 rfl (lv_at hl 3 rfl) ?_
  refine lv_iconst (v := (4 : Int32)) hx hb dL_law_194 (by decide) ?_
  refine lv_iadd hx hb dL_law_195 ?_
  refine sld hx hb hX hbl hbA G.2.2.2 (j := 4) ex rfl (by omega) hL dL_law_196 ?_
  refine lv_aload_n hx hb dL_law_197 rfl (lv_at hl 0 rfl) ?_
  refine lv_iload_n hx hb dL_law_198 rfl (lv_at hl 3 rfl) ?_
  refine lv_iconst (v := (5 : Int32)) hx hb dL_law_199 (by decide) ?_
  refine lv_iadd hx hb dL_law_200 ?_
  refine sld hx hb hX hbl hbA G.2.2.2 (j := 5) ex rfl (by omega) hL dL_law_201 ?_
  refine W.widen (k := ca + 12) (n := sl + 980) (by omega) (by omega) ?_
  refine lcW (As := [.int (xs (i + 1)), .int (xs (i + 2)), .int (xs (i + 3)), .int (xs (i + 4)), .int (xs (i + 5))]) (rest := []) Xc G kc_L_13 (tX9_feed l Ec c0 _ hLc (xs (i + 1)) (xs (i + 2)) (xs (i + 3)) (xs (i + 4)) (xs (i + 5)) hC) (rcv Xc G.c (hLc 0 rfl) (cO9 rfl) rfl) rfl rfl ⟨(Nat.le_of_ble_eq_true rfl), (Nat.le_of_ble_eq_true rfl)⟩ rfl hl.1 rfl (Nat.le_of_ble_eq_true rfl) dL_law_202 ⟨hca, hsl⟩ (fun H locs G => ?_)
  refine lv_aload_n hx hb dL_law_205 rfl (lv_at hl 2 rfl) ?_
  refine lv_aload_n hx hb dL_law_206 rfl (lv_at hl 0 rfl) ?_
  refine lv_iload_n hx hb dL_law_207 rfl (lv_at hl 3 rfl) ?_
  refine lv_iconst (v := (1 : Int32)) hx hb dL_law_208 (by decide) ?_
  refine lv_iadd hx hb dL_law_209 ?_
  refine sld hx hb hX hbl hbA G.2.2.2 (j := 1) ex rfl (by omega) hL dL_law_210 ?_
  refine lv_aload_n hx hb dL_law_211 rfl (lv_at hl 0 rfl) ?_
  refine lv_iload_n hx hb dL_law_212 rfl (lv_at hl 3 rfl) ?_
  refine lv_iconst (v := (2 : Int32)) hx hb dL_law_213 (by decide) ?_
  refine lv_iadd hx hb dL_law_214 ?_
  refine sld hx hb hX hbl hbA G.2.2.2 (j := 2) ex rfl (by omega) hL dL_law_215 ?_
  refine lv_aload_n hx hb dL_law_216 rfl (lv_at hl 0 rfl) ?_
  refine lv_iload_n hx hb dL_law_217 rfl (lv_at hl 3 rfl) ?_
  refine lv_iconst (v := (3 : Int32)) hx hb dL_law_218 (by decide) ?_
  refine lv_iadd hx hb dL_law_219 ?_
  refine sld hx hb hX hbl hbA G.2.2.2 (j := 3) ex rfl (by omega) hL dL_law_220 ?_
  refine lv_aload_n hx hb dL_law_221 rfl (lv_at hl 0 rfl) ?_
  refine lv_iload_n hx hb dL_law_222 rfl (lv_at hl 3 rfl) ?_
  refine lv_iconst (v := (4 : Int32)) hx hb dL_law_223 (by decide) ?_
  refine lv_iadd hx hb dL_law_224 ?_
  refine sld hx hb hX hbl hbA G.2.2.2 (j := 4) ex rfl (by omega) hL dL_law_225 ?_
  refine lv_aload_n hx hb dL_law_226 rfl (lv_at hl 0 rfl) ?_
  refine lv_iload_n hx hb dL_law_227 rfl (lv_at hl 3 rfl) ?_
  refine lv_iconst (v := (5 : Int32)) hx hb dL_law_228 (by decide) ?_
  refine lv_iadd hx hb dL_law_229 ?_
  refine sld hx hb hX hbl hbA G.2.2.2 (j := 5) ex rfl (by omega) hL dL_law_230 ?_
  refine lmW (As := [.int (xs (i + 1)), .int (xs (i + 2)), .int (xs (i + 3)), .int (xs (i + 4)), .int (xs (i + 5))]) (rest := [.int r]) Xm G kc_L_17 (tX10_feed l Em m0 _ hLm (xs (i + 1)) (xs (i + 2)) (xs (i + 3)) (xs (i + 4)) (xs (i + 5)) hM) (rcv Xm G.m (hLm 500 rfl) (cO10 rfl) rfl) rfl rfl ⟨(Nat.le_of_ble_eq_true rfl), (Nat.le_of_ble_eq_true rfl)⟩ rfl hl.1 rfl (Nat.le_of_ble_eq_true rfl) dL_law_231 ⟨hca, hsl⟩ (fun H locs G => ?_)
  refine lv_icmp_eq (tgt := 1152) hx hb dL_law_234 (by decide) (fun _ => ?_) (fun h9 => absurd rfl h9)
  exact kk Ec _ _ ⟨by rw [hLL]; rfl, fun _ _ => rfl, fun k hk => by rw [hLL]; exact hk⟩ G
set_option maxRecDepth 100000 in
theorem lw_case_1 {p : Program} {l : Launch} {e : Env} {s : State} {m : MethodId} {args : Array Value} {below : List Frame} {meth : Method} {c : Code} {H : Heap} {locs : List Loc} {Q : State → Prop} {ls : Array Slot} {Ec Em : Ev} {A : Nat → Prop} {b L i ca sl : Nat} {xs : Nat → Int32} {x3 : Int32} {c0 m0 : St} {L0 : List Nat} {r : Int32} {L1 : List Nat} {c1 m1 : St} (hL : L ≤ 3072) (hX : va_X b L xs s s.heap) (hbl : b < s.heap.size) (hbA : ¬ A b) (ex : x3 = nI i) (hi : i + 6 ≤ L) (Xc : CX p s m args c Ec R_law code 4 A) (Xm : CX p s m args c Em R_law code 4 A) (hN : KN s) (hLc : ∀ k, fxC k = true → k ∈ eL Ec) (hLm : ∀ k, fxM k = true → k ∈ eL Em) (hLL : L0 = eL Ec) (G : G2 Ec Em c0 m0 A s H locs) (hC : fX9_end (xs (i + 1)) c0 = some (r, c1)) (hM : fX10_end (xs (i + 1)) m0 = some (r, m1)) (hca : ca + 12 ≤ 600000) (hsl : sl + 980 ≤ 7302250) (hl : lv_has ls 4 [(0, .ref b), (1, .ref (eq Ec 0)), (2, .ref (eq Em 500)), (3, .int x3)]) (kk : ∀ (E2 : Ev) (H : Heap) (locs : List Loc), Ext Ec E2 L0 → G2 E2 Em c1 m1 A s H locs → W p l e room_1 s m args below meth c H locs (ca + 12) (sl + 980) Q (F0 m 1152 ls [])) : W p l e room_1 s m args below meth c H locs ca sl Q (F0 m 239 ls []) := by
  have hx := Xc.1.1
  have hb := Xc.1.2.1
  refine lv_aload_n hx hb dL_law_239 rfl (lv_at hl 1 rfl) ?_
  refine lv_aload_n hx hb dL_law_240 rfl (lv_at hl 0 rfl) ?_
  refine lv_iload_n hx hb dL_law_241 rfl (lv_at hl 3 rfl) ?_
  refine lv_iconst (v := (1 : Int32)) hx hb dL_law_242 (by decide) ?_
  refine lv_iadd hx hb dL_law_243 ?_
  refine sld hx hb hX hbl hbA G.2.2.2 (j := 1) ex rfl (by omega) hL dL_law_244 ?_
  refine W.widen (k := ca + 12) (n := sl + 980) (by omega) (by omega) ?_
  refine lcW (As := [.int (xs (i + 1))]) (rest := []) Xc G kc_L_18 (tX9_end l Ec c0 _ hLc (xs (i + 1)) hC) (rcv Xc G.c (hLc 0 rfl) (cO9 rfl) rfl) rfl rfl ⟨(Nat.le_of_ble_eq_true rfl), (Nat.le_of_ble_eq_true rfl)⟩ rfl hl.1 rfl (Nat.le_of_ble_eq_true rfl) dL_law_245 ⟨hca, hsl⟩ (fun H locs G => ?_)
  refine lv_aload_n hx hb dL_law_248 rfl (lv_at hl 2 rfl) ?_
  refine lv_aload_n hx hb dL_law_249 rfl (lv_at hl 0 rfl) ?_
  refine lv_iload_n hx hb dL_law_250 rfl (lv_at hl 3 rfl) ?_
  refine lv_iconst (v := (1 : Int32)) hx hb dL_law_251 (by decide) ?_
  refine lv_iadd hx hb dL_law_252 ?_
  refine sld hx hb hX hbl hbA G.2.2.2 (j := 1) ex rfl (by omega) hL dL_law_253 ?_
  refine lmW (As := [.int (xs (i + 1))]) (rest := [.int r]) Xm G kc_L_22 (tX10_end l Em m0 _ hLm (xs (i + 1)) hM) (rcv Xm G.m (hLm 500 rfl) (cO10 rfl) rfl) rfl rfl ⟨(Nat.le_of_ble_eq_true rfl), (Nat.le_of_ble_eq_true rfl)⟩ rfl hl.1 rfl (Nat.le_of_ble_eq_true rfl) dL_law_254 ⟨hca, hsl⟩ (fun H locs G => ?_)
  refine lv_icmp_eq (tgt := 1152) hx hb dL_law_257 (by decide) (fun _ => ?_) (fun h9 => absurd rfl h9)
  exact kk Ec _ _ ⟨by rw [hLL]; rfl, fun _ _ => rfl, fun k hk => by rw [hLL]; exact hk⟩ G
set_option maxRecDepth 100000 in
theorem lw_case_2 {p : Program} {l : Launch} {e : Env} {s : State} {m : MethodId} {args : Array Value} {below : List Frame} {meth : Method} {c : Code} {H : Heap} {locs : List Loc} {Q : State → Prop} {ls : Array Slot} {Ec Em : Ev} {A : Nat → Prop} {b L i ca sl : Nat} {xs : Nat → Int32} {x3 : Int32} {c0 m0 : St} {L0 : List Nat} {r : Int32} {L1 : List Nat} {c1 m1 : St} (hL : L ≤ 3072) (hX : va_X b L xs s s.heap) (hbl : b < s.heap.size) (hbA : ¬ A b) (ex : x3 = nI i) (hi : i + 6 ≤ L) (Xc : CX p s m args c Ec R_law code 4 A) (Xm : CX p s m args c Em R_law code 4 A) (hN : KN s) (hLc : ∀ k, fxC k = true → k ∈ eL Ec) (hLm : ∀ k, fxM k = true → k ∈ eL Em) (hLL : L0 = eL Ec) (G : G2 Ec Em c0 m0 A s H locs) (hC : fX9_duchy c0 = some (r, c1)) (hM : fX10_duchy m0 = some (r, m1)) (hca : ca + 12 ≤ 600000) (hsl : sl + 980 ≤ 7302250) (hl : lv_has ls 4 [(0, .ref b), (1, .ref (eq Ec 0)), (2, .ref (eq Em 500)), (3, .int x3)]) (kk : ∀ (E2 : Ev) (H : Heap) (locs : List Loc), Ext Ec E2 L0 → G2 E2 Em c1 m1 A s H locs → W p l e room_1 s m args below meth c H locs (ca + 12) (sl + 980) Q (F0 m 1152 ls [])) : W p l e room_1 s m args below meth c H locs ca sl Q (F0 m 262 ls []) := by
  have hx := Xc.1.1
  have hb := Xc.1.2.1
  refine lv_aload_n hx hb dL_law_262 rfl (lv_at hl 1 rfl) ?_
  refine W.widen (k := ca + 12) (n := sl + 980) (by omega) (by omega) ?_
  refine lcW (As := []) (rest := []) Xc G kc_L_23 (tX9_duchy l Ec c0 _ hLc  hC) (rcv Xc G.c (hLc 0 rfl) (cO9 rfl) rfl) rfl rfl ⟨(Nat.le_of_ble_eq_true rfl), (Nat.le_of_ble_eq_true rfl)⟩ rfl hl.1 rfl (Nat.le_of_ble_eq_true rfl) dL_law_263 ⟨hca, hsl⟩ (fun H locs G => ?_)
  refine lv_aload_n hx hb dL_law_266 rfl (lv_at hl 2 rfl) ?_
  refine lmW (As := []) (rest := [.int r]) Xm G kc_L_27 (tX10_duchy l Em m0 _ hLm  hM) (rcv Xm G.m (hLm 500 rfl) (cO10 rfl) rfl) rfl rfl ⟨(Nat.le_of_ble_eq_true rfl), (Nat.le_of_ble_eq_true rfl)⟩ rfl hl.1 rfl (Nat.le_of_ble_eq_true rfl) dL_law_267 ⟨hca, hsl⟩ (fun H locs G => ?_)
  refine lv_icmp_eq (tgt := 1152) hx hb dL_law_270 (by decide) (fun _ => ?_) (fun h9 => absurd rfl h9)
  exact kk Ec _ _ ⟨by rw [hLL]; rfl, fun _ _ => rfl, fun k hk => by rw [hLL]; exact hk⟩ G
set_option maxRecDepth 100000 in
theorem lw_case_3 {p : Program} {l : Launch} {e : Env} {s : State} {m : MethodId} {args : Array Value} {below : List Frame} {meth : Method} {c : Code} {H : Heap} {locs : List Loc} {Q : State → Prop} {ls : Array Slot} {Ec Em : Ev} {A : Nat → Prop} {b L i ca sl : Nat} {xs : Nat → Int32} {x3 : Int32} {c0 m0 : St} {L0 : List Nat} {r : Int32} {L1 : List Nat} {c1 m1 : St} (hL : L ≤ 3072) (hX : va_X b L xs s s.heap) (hbl : b < s.heap.size) (hbA : ¬ A b) (ex : x3 = nI i) (hi : i + 6 ≤ L) (Xc : CX p s m args c Ec R_law code 4 A) (Xm : CX p s m args c Em R_law code 4 A) (hN : KN s) (hLc : ∀ k, fxC k = true → k ∈ eL Ec) (hLm : ∀ k, fxM k = true → k ∈ eL Em) (hLL : L0 = eL Ec) (G : G2 Ec Em c0 m0 A s H locs) (hC : fX9_rule L0 c0 = some (r, L1, c1)) (hM : fX10_rule m0 = some (r, m1)) (hca : ca + 12 ≤ 600000) (hsl : sl + 980 ≤ 7302250) (hl : lv_has ls 4 [(0, .ref b), (1, .ref (eq Ec 0)), (2, .ref (eq Em 500)), (3, .int x3)]) (kk : ∀ (E2 : Ev) (H : Heap) (locs : List Loc), Ext Ec E2 L1 → G2 E2 Em c1 m1 A s H locs → W p l e room_1 s m args below meth c H locs (ca + 12) (sl + 980) Q (F0 m 1152 ls [])) : W p l e room_1 s m args below meth c H locs ca sl Q (F0 m 275 ls []) := by
  have hx := Xc.1.1
  have hb := Xc.1.2.1
  refine lv_aload_n hx hb dL_law_275 rfl (lv_at hl 1 rfl) ?_
  refine lcA (As := []) (rest := []) Xc hN G kc_L_28 (tX9_rule l Ec c0 _ hLc hLL  hC) (rcv Xc G.c (hLc 0 rfl) (cO9 rfl) rfl) rfl rfl ⟨(Nat.le_of_ble_eq_true rfl), (Nat.le_of_ble_eq_true rfl)⟩ rfl hl.1 rfl (Nat.le_of_ble_eq_true rfl) dL_law_276 (c2 := ca + 12) (n2 := sl + 980) (by omega) (by omega) hca hsl (fun E2 H locs hE G => ?_)
  refine lv_aload_n hx hb dL_law_279 rfl (lv_at hl 2 rfl) ?_
  refine lmW (As := []) (rest := [.int r]) Xm G kc_L_31 (tX10_rule l Em m0 _ hLm  hM) (rcv Xm G.m (hLm 500 rfl) (cO10 rfl) rfl) rfl rfl ⟨(Nat.le_of_ble_eq_true rfl), (Nat.le_of_ble_eq_true rfl)⟩ rfl hl.1 rfl (Nat.le_of_ble_eq_true rfl) dL_law_280 ⟨hca, hsl⟩ (fun H locs G => ?_)
  refine lv_icmp_eq (tgt := 1152) hx hb dL_law_283 (by decide) (fun _ => ?_) (fun h9 => absurd rfl h9)
  exact kk E2 H locs hE G
set_option maxRecDepth 100000 in
theorem lw_case_4 {p : Program} {l : Launch} {e : Env} {s : State} {m : MethodId} {args : Array Value} {below : List Frame} {meth : Method} {c : Code} {H : Heap} {locs : List Loc} {Q : State → Prop} {ls : Array Slot} {Ec Em : Ev} {A : Nat → Prop} {b L i ca sl : Nat} {xs : Nat → Int32} {x3 : Int32} {c0 m0 : St} {L0 : List Nat} {r : Int32} {L1 : List Nat} {c1 m1 : St} (hL : L ≤ 3072) (hX : va_X b L xs s s.heap) (hbl : b < s.heap.size) (hbA : ¬ A b) (ex : x3 = nI i) (hi : i + 6 ≤ L) (Xc : CX p s m args c Ec R_law code 4 A) (Xm : CX p s m args c Em R_law code 4 A) (hN : KN s) (hLc : ∀ k, fxC k = true → k ∈ eL Ec) (hLm : ∀ k, fxM k = true → k ∈ eL Em) (hLL : L0 = eL Ec) (G : G2 Ec Em c0 m0 A s H locs) (hC : fX9_force (xs (i + 1)) c0 = some (r, c1)) (hM : fX10_force (xs (i + 1)) m0 = some (r, m1)) (hca : ca + 12 ≤ 600000) (hsl : sl + 980 ≤ 7302250) (hl : lv_has ls 4 [(0, .ref b), (1, .ref (eq Ec 0)), (2, .ref (eq Em 500)), (3, .int x3)]) (kk : ∀ (E2 : Ev) (H : Heap) (locs : List Loc), Ext Ec E2 L0 → G2 E2 Em c1 m1 A s H locs → W p l e room_1 s m args below meth c H locs (ca + 12) (sl + 980) Q (F0 m 1152 ls [])) : W p l e room_1 s m args below meth c H locs ca sl Q (F0 m 288 ls []) := by
  have hx := Xc.1.1
  have hb := Xc.1.2.1
  refine lv_aload_n hx hb dL_law_288 rfl (lv_at hl 1 rfl) ?_
  refine lv_aload_n hx hb dL_law_289 rfl (lv_at hl 0 rfl) ?_
  refine lv_iload_n hx hb dL_law_290 rfl (lv_at hl 3 rfl) ?_
  refine lv_iconst (v := (1 : Int32)) hx hb dL_law_291 (by decide) ?_
  refine lv_iadd hx hb dL_law_292 ?_
  refine sld hx hb hX hbl hbA G.2.2.2 (j := 1) ex rfl (by omega) hL dL_law_293 ?_
  refine W.widen (k := ca + 12) (n := sl + 980) (by omega) (by omega) ?_
  refine lcW (As := [.int (xs (i + 1))]) (rest := []) Xc G kc_L_32 (tX9_force l Ec c0 _ hLc (xs (i + 1)) hC) (rcv Xc G.c (hLc 0 rfl) (cO9 rfl) rfl) rfl rfl ⟨(Nat.le_of_ble_eq_true rfl), (Nat.le_of_ble_eq_true rfl)⟩ rfl hl.1 rfl (Nat.le_of_ble_eq_true rfl) dL_law_294 ⟨hca, hsl⟩ (fun H locs G => ?_)
  refine lv_aload_n hx hb dL_law_297 rfl (lv_at hl 2 rfl) ?_
  refine lv_aload_n hx hb dL_law_298 rfl (lv_at hl 0 rfl) ?_
  refine lv_iload_n hx hb dL_law_299 rfl (lv_at hl 3 rfl) ?_
  refine lv_iconst (v := (1 : Int32)) hx hb dL_law_300 (by decide) ?_
  refine lv_iadd hx hb dL_law_301 ?_
  refine sld hx hb hX hbl hbA G.2.2.2 (j := 1) ex rfl (by omega) hL dL_law_302 ?_
  refine lmW (As := [.int (xs (i + 1))]) (rest := [.int r]) Xm G kc_L_35 (tX10_force l Em m0 _ hLm (xs (i + 1)) hM) (rcv Xm G.m (hLm 500 rfl) (cO10 rfl) rfl) rfl rfl ⟨(Nat.le_of_ble_eq_true rfl), (Nat.le_of_ble_eq_true rfl)⟩ rfl hl.1 rfl (Nat.le_of_ble_eq_true rfl) dL_law_303 ⟨hca, hsl⟩ (fun H locs G => ?_)
  refine lv_icmp_eq (tgt := 1152) hx hb dL_law_306 (by decide) (fun _ => ?_) (fun h9 => absurd rfl h9)
  exact kk Ec _ _ ⟨by rw [hLL]; rfl, fun _ _ => rfl, fun k hk => by rw [hLL]; exact hk⟩ G
set_option maxRecDepth 100000 in
theorem lw_case_5 {p : Program} {l : Launch} {e : Env} {s : State} {m : MethodId} {args : Array Value} {below : List Frame} {meth : Method} {c : Code} {H : Heap} {locs : List Loc} {Q : State → Prop} {ls : Array Slot} {Ec Em : Ev} {A : Nat → Prop} {b L i ca sl : Nat} {xs : Nat → Int32} {x3 : Int32} {c0 m0 : St} {L0 : List Nat} {r : Int32} {L1 : List Nat} {c1 m1 : St} (hL : L ≤ 3072) (hX : va_X b L xs s s.heap) (hbl : b < s.heap.size) (hbA : ¬ A b) (ex : x3 = nI i) (hi : i + 6 ≤ L) (Xc : CX p s m args c Ec R_law code 4 A) (Xm : CX p s m args c Em R_law code 4 A) (hN : KN s) (hLc : ∀ k, fxC k = true → k ∈ eL Ec) (hLm : ∀ k, fxM k = true → k ∈ eL Em) (hLL : L0 = eL Ec) (G : G2 Ec Em c0 m0 A s H locs) (hC : fX9_house c0 (xs (i + 1)) (xs (i + 2)) = some r) (hM : fX10_house m0 (xs (i + 1)) (xs (i + 2)) = some r) (hca : ca + 12 ≤ 600000) (hsl : sl + 980 ≤ 7302250) (hl : lv_has ls 4 [(0, .ref b), (1, .ref (eq Ec 0)), (2, .ref (eq Em 500)), (3, .int x3)]) (kk : ∀ (E2 : Ev) (H : Heap) (locs : List Loc), Ext Ec E2 L0 → G2 E2 Em c0 m0 A s H locs → W p l e room_1 s m args below meth c H locs (ca + 12) (sl + 980) Q (F0 m 1152 ls [])) : W p l e room_1 s m args below meth c H locs ca sl Q (F0 m 311 ls []) := by
  have hx := Xc.1.1
  have hb := Xc.1.2.1
  refine lv_aload_n hx hb dL_law_311 rfl (lv_at hl 1 rfl) ?_
  refine lv_aload_n hx hb dL_law_312 rfl (lv_at hl 0 rfl) ?_
  refine lv_iload_n hx hb dL_law_313 rfl (lv_at hl 3 rfl) ?_
  refine lv_iconst (v := (1 : Int32)) hx hb dL_law_314 (by decide) ?_
  refine lv_iadd hx hb dL_law_315 ?_
  refine sld hx hb hX hbl hbA G.2.2.2 (j := 1) ex rfl (by omega) hL dL_law_316 ?_
  refine lv_aload_n hx hb dL_law_317 rfl (lv_at hl 0 rfl) ?_
  refine lv_iload_n hx hb dL_law_318 rfl (lv_at hl 3 rfl) ?_
  refine lv_iconst (v := (2 : Int32)) hx hb dL_law_319 (by decide) ?_
  refine lv_iadd hx hb dL_law_320 ?_
  refine sld hx hb hX hbl hbA G.2.2.2 (j := 2) ex rfl (by omega) hL dL_law_321 ?_
  refine W.widen (k := ca + 12) (n := sl + 980) (by omega) (by omega) ?_
  refine cVRi (As := [.int (xs (i + 1)), .int (xs (i + 2))]) (rest := []) Xc G.c kc_L_36 (tX9_house l Ec c0 _ hLc (xs (i + 1)) (xs (i + 2)) hC) (rcv Xc G.c (hLc 0 rfl) (cO9 rfl) rfl) rfl rfl ⟨(Nat.le_of_ble_eq_true rfl), (Nat.le_of_ble_eq_true rfl)⟩ rfl hl.1 rfl (Nat.le_of_ble_eq_true rfl) dL_law_322 ⟨hca, hsl⟩ ?_
  refine lv_aload_n hx hb dL_law_325 rfl (lv_at hl 2 rfl) ?_
  refine lv_aload_n hx hb dL_law_326 rfl (lv_at hl 0 rfl) ?_
  refine lv_iload_n hx hb dL_law_327 rfl (lv_at hl 3 rfl) ?_
  refine lv_iconst (v := (1 : Int32)) hx hb dL_law_328 (by decide) ?_
  refine lv_iadd hx hb dL_law_329 ?_
  refine sld hx hb hX hbl hbA G.2.2.2 (j := 1) ex rfl (by omega) hL dL_law_330 ?_
  refine lv_aload_n hx hb dL_law_331 rfl (lv_at hl 0 rfl) ?_
  refine lv_iload_n hx hb dL_law_332 rfl (lv_at hl 3 rfl) ?_
  refine lv_iconst (v := (2 : Int32)) hx hb dL_law_333 (by decide) ?_
  refine lv_iadd hx hb dL_law_334 ?_
  refine sld hx hb hX hbl hbA G.2.2.2 (j := 2) ex rfl (by omega) hL dL_law_335 ?_
  refine cVRi (As := [.int (xs (i + 1)), .int (xs (i + 2))]) (rest := [.int r]) Xm G.m kc_L_40 (tX10_house l Em m0 _ hLm (xs (i + 1)) (xs (i + 2)) hM) (rcv Xm G.m (hLm 500 rfl) (cO10 rfl) rfl) rfl rfl ⟨(Nat.le_of_ble_eq_true rfl), (Nat.le_of_ble_eq_true rfl)⟩ rfl hl.1 rfl (Nat.le_of_ble_eq_true rfl) dL_law_336 ⟨hca, hsl⟩ ?_
  refine lv_icmp_eq (tgt := 1152) hx hb dL_law_339 (by decide) (fun _ => ?_) (fun h9 => absurd rfl h9)
  exact kk Ec _ _ ⟨by rw [hLL]; rfl, fun _ _ => rfl, fun k hk => by rw [hLL]; exact hk⟩ G
set_option maxRecDepth 100000 in
theorem lw_case_6 {p : Program} {l : Launch} {e : Env} {s : State} {m : MethodId} {args : Array Value} {below : List Frame} {meth : Method} {c : Code} {H : Heap} {locs : List Loc} {Q : State → Prop} {ls : Array Slot} {Ec Em : Ev} {A : Nat → Prop} {b L i ca sl : Nat} {xs : Nat → Int32} {x3 : Int32} {c0 m0 : St} {L0 : List Nat} {r : Int32} {L1 : List Nat} {c1 m1 : St} (hL : L ≤ 3072) (hX : va_X b L xs s s.heap) (hbl : b < s.heap.size) (hbA : ¬ A b) (ex : x3 = nI i) (hi : i + 6 ≤ L) (Xc : CX p s m args c Ec R_law code 4 A) (Xm : CX p s m args c Em R_law code 4 A) (hN : KN s) (hLc : ∀ k, fxC k = true → k ∈ eL Ec) (hLm : ∀ k, fxM k = true → k ∈ eL Em) (hLL : L0 = eL Ec) (G : G2 Ec Em c0 m0 A s H locs) (hC : fX9_officer c0 (xs (i + 1)) (xs (i + 2)) = some r) (hM : fX10_officer m0 (xs (i + 1)) (xs (i + 2)) = some r) (hca : ca + 12 ≤ 600000) (hsl : sl + 980 ≤ 7302250) (hl : lv_has ls 4 [(0, .ref b), (1, .ref (eq Ec 0)), (2, .ref (eq Em 500)), (3, .int x3)]) (kk : ∀ (E2 : Ev) (H : Heap) (locs : List Loc), Ext Ec E2 L0 → G2 E2 Em c0 m0 A s H locs → W p l e room_1 s m args below meth c H locs (ca + 12) (sl + 980) Q (F0 m 1152 ls [])) : W p l e room_1 s m args below meth c H locs ca sl Q (F0 m 344 ls []) := by
  have hx := Xc.1.1
  have hb := Xc.1.2.1
  refine lv_aload_n hx hb dL_law_344 rfl (lv_at hl 1 rfl) ?_
  refine lv_aload_n hx hb dL_law_345 rfl (lv_at hl 0 rfl) ?_
  refine lv_iload_n hx hb dL_law_346 rfl (lv_at hl 3 rfl) ?_
  refine lv_iconst (v := (1 : Int32)) hx hb dL_law_347 (by decide) ?_
  refine lv_iadd hx hb dL_law_348 ?_
  refine sld hx hb hX hbl hbA G.2.2.2 (j := 1) ex rfl (by omega) hL dL_law_349 ?_
  refine lv_aload_n hx hb dL_law_350 rfl (lv_at hl 0 rfl) ?_
  refine lv_iload_n hx hb dL_law_351 rfl (lv_at hl 3 rfl) ?_
  refine lv_iconst (v := (2 : Int32)) hx hb dL_law_352 (by decide) ?_
  refine lv_iadd hx hb dL_law_353 ?_
  refine sld hx hb hX hbl hbA G.2.2.2 (j := 2) ex rfl (by omega) hL dL_law_354 ?_
  refine W.widen (k := ca + 12) (n := sl + 980) (by omega) (by omega) ?_
  refine cVRi (As := [.int (xs (i + 1)), .int (xs (i + 2))]) (rest := []) Xc G.c kc_L_41 (tX9_officer l Ec c0 _ hLc (xs (i + 1)) (xs (i + 2)) hC) (rcv Xc G.c (hLc 0 rfl) (cO9 rfl) rfl) rfl rfl ⟨(Nat.le_of_ble_eq_true rfl), (Nat.le_of_ble_eq_true rfl)⟩ rfl hl.1 rfl (Nat.le_of_ble_eq_true rfl) dL_law_355 ⟨hca, hsl⟩ ?_
  refine lv_aload_n hx hb dL_law_358 rfl (lv_at hl 2 rfl) ?_
  refine lv_aload_n hx hb dL_law_359 rfl (lv_at hl 0 rfl) ?_
  refine lv_iload_n hx hb dL_law_360 rfl (lv_at hl 3 rfl) ?_
  refine lv_iconst (v := (1 : Int32)) hx hb dL_law_361 (by decide) ?_
  refine lv_iadd hx hb dL_law_362 ?_
  refine sld hx hb hX hbl hbA G.2.2.2 (j := 1) ex rfl (by omega) hL dL_law_363 ?_
  refine lv_aload_n hx hb dL_law_364 rfl (lv_at hl 0 rfl) ?_
  refine lv_iload_n hx hb dL_law_365 rfl (lv_at hl 3 rfl) ?_
  refine lv_iconst (v := (2 : Int32)) hx hb dL_law_366 (by decide) ?_
  refine lv_iadd hx hb dL_law_367 ?_
  refine sld hx hb hX hbl hbA G.2.2.2 (j := 2) ex rfl (by omega) hL dL_law_368 ?_
  refine cVRi (As := [.int (xs (i + 1)), .int (xs (i + 2))]) (rest := [.int r]) Xm G.m kc_L_44 (tX10_officer l Em m0 _ hLm (xs (i + 1)) (xs (i + 2)) hM) (rcv Xm G.m (hLm 500 rfl) (cO10 rfl) rfl) rfl rfl ⟨(Nat.le_of_ble_eq_true rfl), (Nat.le_of_ble_eq_true rfl)⟩ rfl hl.1 rfl (Nat.le_of_ble_eq_true rfl) dL_law_369 ⟨hca, hsl⟩ ?_
  refine lv_icmp_eq (tgt := 1152) hx hb dL_law_372 (by decide) (fun _ => ?_) (fun h9 => absurd rfl h9)
  exact kk Ec _ _ ⟨by rw [hLL]; rfl, fun _ _ => rfl, fun k hk => by rw [hLL]; exact hk⟩ G
set_option maxRecDepth 100000 in
theorem lw_case_7 {p : Program} {l : Launch} {e : Env} {s : State} {m : MethodId} {args : Array Value} {below : List Frame} {meth : Method} {c : Code} {H : Heap} {locs : List Loc} {Q : State → Prop} {ls : Array Slot} {Ec Em : Ev} {A : Nat → Prop} {b L i ca sl : Nat} {xs : Nat → Int32} {x3 : Int32} {c0 m0 : St} {L0 : List Nat} {r : Int32} {L1 : List Nat} {c1 m1 : St} (hL : L ≤ 3072) (hX : va_X b L xs s s.heap) (hbl : b < s.heap.size) (hbA : ¬ A b) (ex : x3 = nI i) (hi : i + 6 ≤ L) (Xc : CX p s m args c Ec R_law code 4 A) (Xm : CX p s m args c Em R_law code 4 A) (hN : KN s) (hLc : ∀ k, fxC k = true → k ∈ eL Ec) (hLm : ∀ k, fxM k = true → k ∈ eL Em) (hLL : L0 = eL Ec) (G : G2 Ec Em c0 m0 A s H locs) (hC : fX9_night L0 c0 = some (r, c1)) (hM : fX10_night m0 = some (r, m1)) (hca : ca + 12 ≤ 600000) (hsl : sl + 980 ≤ 7302250) (hl : lv_has ls 4 [(0, .ref b), (1, .ref (eq Ec 0)), (2, .ref (eq Em 500)), (3, .int x3)]) (kk : ∀ (E2 : Ev) (H : Heap) (locs : List Loc), Ext Ec E2 L0 → G2 E2 Em c1 m1 A s H locs → W p l e room_1 s m args below meth c H locs (ca + 12) (sl + 980) Q (F0 m 1152 ls [])) : W p l e room_1 s m args below meth c H locs ca sl Q (F0 m 377 ls []) := by
  have hx := Xc.1.1
  have hb := Xc.1.2.1
  refine lv_aload_n hx hb dL_law_377 rfl (lv_at hl 1 rfl) ?_
  refine W.widen (k := ca + 12) (n := sl + 980) (by omega) (by omega) ?_
  refine lcW (As := []) (rest := []) Xc G kc_L_45 (tX9_night l Ec c0 _ hLc hLL  hC) (rcv Xc G.c (hLc 0 rfl) (cO9 rfl) rfl) rfl rfl ⟨(Nat.le_of_ble_eq_true rfl), (Nat.le_of_ble_eq_true rfl)⟩ rfl hl.1 rfl (Nat.le_of_ble_eq_true rfl) dL_law_378 ⟨hca, hsl⟩ (fun H locs G => ?_)
  refine lv_aload_n hx hb dL_law_381 rfl (lv_at hl 2 rfl) ?_
  refine lmW (As := []) (rest := [.int r]) Xm G kc_L_48 (tX10_night l Em m0 _ hLm  hM) (rcv Xm G.m (hLm 500 rfl) (cO10 rfl) rfl) rfl rfl ⟨(Nat.le_of_ble_eq_true rfl), (Nat.le_of_ble_eq_true rfl)⟩ rfl hl.1 rfl (Nat.le_of_ble_eq_true rfl) dL_law_382 ⟨hca, hsl⟩ (fun H locs G => ?_)
  refine lv_icmp_eq (tgt := 1152) hx hb dL_law_385 (by decide) (fun _ => ?_) (fun h9 => absurd rfl h9)
  exact kk Ec _ _ ⟨by rw [hLL]; rfl, fun _ _ => rfl, fun k hk => by rw [hLL]; exact hk⟩ G
set_option maxRecDepth 100000 in
theorem lw_case_8 {p : Program} {l : Launch} {e : Env} {s : State} {m : MethodId} {args : Array Value} {below : List Frame} {meth : Method} {c : Code} {H : Heap} {locs : List Loc} {Q : State → Prop} {ls : Array Slot} {Ec Em : Ev} {A : Nat → Prop} {b L i ca sl : Nat} {xs : Nat → Int32} {x3 : Int32} {c0 m0 : St} {L0 : List Nat} {r : Int32} {L1 : List Nat} {c1 m1 : St} (hL : L ≤ 3072) (hX : va_X b L xs s s.heap) (hbl : b < s.heap.size) (hbA : ¬ A b) (ex : x3 = nI i) (hi : i + 6 ≤ L) (Xc : CX p s m args c Ec R_law code 4 A) (Xm : CX p s m args c Em R_law code 4 A) (hN : KN s) (hLc : ∀ k, fxC k = true → k ∈ eL Ec) (hLm : ∀ k, fxM k = true → k ∈ eL Em) (hLL : L0 = eL Ec) (G : G2 Ec Em c0 m0 A s H locs) (hC : fX9_fell (xs (i + 1)) (xs (i + 2)) c0 = some (r, c1)) (hM : fX10_fell (xs (i + 1)) (xs (i + 2)) m0 = some (r, m1)) (hca : ca + 12 ≤ 600000) (hsl : sl + 980 ≤ 7302250) (hl : lv_has ls 4 [(0, .ref b), (1, .ref (eq Ec 0)), (2, .ref (eq Em 500)), (3, .int x3)]) (kk : ∀ (E2 : Ev) (H : Heap) (locs : List Loc), Ext Ec E2 L0 → G2 E2 Em c1 m1 A s H locs → W p l e room_1 s m args below meth c H locs (ca + 12) (sl + 980) Q (F0 m 1152 ls [])) : W p l e room_1 s m args below meth c H locs ca sl Q (F0 m 390 ls []) := by
  have hx := Xc.1.1
  have hb := Xc.1.2.1
  refine lv_aload_n hx hb dL_law_390 rfl (lv_at hl 1 rfl) ?_
  refine lv_aload_n hx hb dL_law_391 rfl (lv_at hl 0 rfl) ?_
  refine lv_iload_n hx hb dL_law_392 rfl (lv_at hl 3 rfl) ?_
  refine lv_iconst (v := (1 : Int32)) hx hb dL_law_393 (by decide) ?_
  refine lv_iadd hx hb dL_law_394 ?_
  refine sld hx hb hX hbl hbA G.2.2.2 (j := 1) ex rfl (by omega) hL dL_law_395 ?_
  refine lv_aload_n hx hb dL_law_396 rfl (lv_at hl 0 rfl) ?_
  refine lv_iload_n hx hb dL_law_397 rfl (lv_at hl 3 rfl) ?_
  refine lv_iconst (v := (2 : Int32)) hx hb dL_law_398 (by decide) ?_
  refine lv_iadd hx hb dL_law_399 ?_
  refine sld hx hb hX hbl hbA G.2.2.2 (j := 2) ex rfl (by omega) hL dL_law_400 ?_
  refine W.widen (k := ca + 12) (n := sl + 980) (by omega) (by omega) ?_
  refine lcW (As := [.int (xs (i + 1)), .int (xs (i + 2))]) (rest := []) Xc G kc_L_49 (tX9_fell l Ec c0 _ hLc (xs (i + 1)) (xs (i + 2)) hC) (rcv Xc G.c (hLc 0 rfl) (cO9 rfl) rfl) rfl rfl ⟨(Nat.le_of_ble_eq_true rfl), (Nat.le_of_ble_eq_true rfl)⟩ rfl hl.1 rfl (Nat.le_of_ble_eq_true rfl) dL_law_401 ⟨hca, hsl⟩ (fun H locs G => ?_)
  refine lv_aload_n hx hb dL_law_404 rfl (lv_at hl 2 rfl) ?_
  refine lv_aload_n hx hb dL_law_405 rfl (lv_at hl 0 rfl) ?_
  refine lv_iload_n hx hb dL_law_406 rfl (lv_at hl 3 rfl) ?_
  refine lv_iconst (v := (1 : Int32)) hx hb dL_law_407 (by decide) ?_
  refine lv_iadd hx hb dL_law_408 ?_
  refine sld hx hb hX hbl hbA G.2.2.2 (j := 1) ex rfl (by omega) hL dL_law_409 ?_
  refine lv_aload_n hx hb dL_law_410 rfl (lv_at hl 0 rfl) ?_
  refine lv_iload_n hx hb dL_law_411 rfl (lv_at hl 3 rfl) ?_
  refine lv_iconst (v := (2 : Int32)) hx hb dL_law_412 (by decide) ?_
  refine lv_iadd hx hb dL_law_413 ?_
  refine sld hx hb hX hbl hbA G.2.2.2 (j := 2) ex rfl (by omega) hL dL_law_414 ?_
  refine lmW (As := [.int (xs (i + 1)), .int (xs (i + 2))]) (rest := [.int r]) Xm G kc_L_52 (tX10_fell l Em m0 _ hLm (xs (i + 1)) (xs (i + 2)) hM) (rcv Xm G.m (hLm 500 rfl) (cO10 rfl) rfl) rfl rfl ⟨(Nat.le_of_ble_eq_true rfl), (Nat.le_of_ble_eq_true rfl)⟩ rfl hl.1 rfl (Nat.le_of_ble_eq_true rfl) dL_law_415 ⟨hca, hsl⟩ (fun H locs G => ?_)
  refine lv_icmp_eq (tgt := 1152) hx hb dL_law_418 (by decide) (fun _ => ?_) (fun h9 => absurd rfl h9)
  exact kk Ec _ _ ⟨by rw [hLL]; rfl, fun _ _ => rfl, fun k hk => by rw [hLL]; exact hk⟩ G
set_option maxRecDepth 100000 in
theorem lw_case_9 {p : Program} {l : Launch} {e : Env} {s : State} {m : MethodId} {args : Array Value} {below : List Frame} {meth : Method} {c : Code} {H : Heap} {locs : List Loc} {Q : State → Prop} {ls : Array Slot} {Ec Em : Ev} {A : Nat → Prop} {b L i ca sl : Nat} {xs : Nat → Int32} {x3 : Int32} {c0 m0 : St} {L0 : List Nat} {r : Int32} {L1 : List Nat} {c1 m1 : St} (hL : L ≤ 3072) (hX : va_X b L xs s s.heap) (hbl : b < s.heap.size) (hbA : ¬ A b) (ex : x3 = nI i) (hi : i + 6 ≤ L) (Xc : CX p s m args c Ec R_law code 4 A) (Xm : CX p s m args c Em R_law code 4 A) (hN : KN s) (hLc : ∀ k, fxC k = true → k ∈ eL Ec) (hLm : ∀ k, fxM k = true → k ∈ eL Em) (hLL : L0 = eL Ec) (G : G2 Ec Em c0 m0 A s H locs) (hC : fX9_lend (xs (i + 1)) (xs (i + 2)) (xs (i + 3)) c0 = some (r, c1)) (hM : fX10_lend (xs (i + 1)) (xs (i + 2)) (xs (i + 3)) m0 = some (r, m1)) (hca : ca + 12 ≤ 600000) (hsl : sl + 980 ≤ 7302250) (hl : lv_has ls 4 [(0, .ref b), (1, .ref (eq Ec 0)), (2, .ref (eq Em 500)), (3, .int x3)]) (kk : ∀ (E2 : Ev) (H : Heap) (locs : List Loc), Ext Ec E2 L0 → G2 E2 Em c1 m1 A s H locs → W p l e room_1 s m args below meth c H locs (ca + 12) (sl + 980) Q (F0 m 1152 ls [])) : W p l e room_1 s m args below meth c H locs ca sl Q (F0 m 423 ls []) := by
  have hx := Xc.1.1
  have hb := Xc.1.2.1
  refine lv_aload_n hx hb dL_law_423 rfl (lv_at hl 1 rfl) ?_
  refine lv_aload_n hx hb dL_law_424 rfl (lv_at hl 0 rfl) ?_
  refine lv_iload_n hx hb dL_law_425 rfl (lv_at hl 3 rfl) ?_
  refine lv_iconst (v := (1 : Int32)) hx hb dL_law_426 (by decide) ?_
  refine lv_iadd hx hb dL_law_427 ?_
  refine sld hx hb hX hbl hbA G.2.2.2 (j := 1) ex rfl (by omega) hL dL_law_428 ?_
  refine lv_aload_n hx hb dL_law_429 rfl (lv_at hl 0 rfl) ?_
  refine lv_iload_n hx hb dL_law_430 rfl (lv_at hl 3 rfl) ?_
  refine lv_iconst (v := (2 : Int32)) hx hb dL_law_431 (by decide) ?_
  refine lv_iadd hx hb dL_law_432 ?_
  refine sld hx hb hX hbl hbA G.2.2.2 (j := 2) ex rfl (by omega) hL dL_law_433 ?_
  refine lv_aload_n hx hb dL_law_434 rfl (lv_at hl 0 rfl) ?_
  refine lv_iload_n hx hb dL_law_435 rfl (lv_at hl 3 rfl) ?_
  refine lv_iconst (v := (3 : Int32)) hx hb dL_law_436 (by decide) ?_
  refine lv_iadd hx hb dL_law_437 ?_
  refine sld hx hb hX hbl hbA G.2.2.2 (j := 3) ex rfl (by omega) hL dL_law_438 ?_
  refine W.widen (k := ca + 12) (n := sl + 980) (by omega) (by omega) ?_
  refine lcW (As := [.int (xs (i + 1)), .int (xs (i + 2)), .int (xs (i + 3))]) (rest := []) Xc G kc_L_53 (tX9_lend l Ec c0 _ hLc (xs (i + 1)) (xs (i + 2)) (xs (i + 3)) hC) (rcv Xc G.c (hLc 0 rfl) (cO9 rfl) rfl) rfl rfl ⟨(Nat.le_of_ble_eq_true rfl), (Nat.le_of_ble_eq_true rfl)⟩ rfl hl.1 rfl (Nat.le_of_ble_eq_true rfl) dL_law_439 ⟨hca, hsl⟩ (fun H locs G => ?_)
  refine lv_aload_n hx hb dL_law_442 rfl (lv_at hl 2 rfl) ?_
  refine lv_aload_n hx hb dL_law_443 rfl (lv_at hl 0 rfl) ?_
  refine lv_iload_n hx hb dL_law_444 rfl (lv_at hl 3 rfl) ?_
  refine lv_iconst (v := (1 : Int32)) hx hb dL_law_445 (by decide) ?_
  refine lv_iadd hx hb dL_law_446 ?_
  refine sld hx hb hX hbl hbA G.2.2.2 (j := 1) ex rfl (by omega) hL dL_law_447 ?_
  refine lv_aload_n hx hb dL_law_448 rfl (lv_at hl 0 rfl) ?_
  refine lv_iload_n hx hb dL_law_449 rfl (lv_at hl 3 rfl) ?_
  refine lv_iconst (v := (2 : Int32)) hx hb dL_law_450 (by decide) ?_
  refine lv_iadd hx hb dL_law_451 ?_
  refine sld hx hb hX hbl hbA G.2.2.2 (j := 2) ex rfl (by omega) hL dL_law_452 ?_
  refine lv_aload_n hx hb dL_law_453 rfl (lv_at hl 0 rfl) ?_
  refine lv_iload_n hx hb dL_law_454 rfl (lv_at hl 3 rfl) ?_
  refine lv_iconst (v := (3 : Int32)) hx hb dL_law_455 (by decide) ?_
  refine lv_iadd hx hb dL_law_456 ?_
  refine sld hx hb hX hbl hbA G.2.2.2 (j := 3) ex rfl (by omega) hL dL_law_457 ?_
  refine lmW (As := [.int (xs (i + 1)), .int (xs (i + 2)), .int (xs (i + 3))]) (rest := [.int r]) Xm G kc_L_57 (tX10_lend l Em m0 _ hLm (xs (i + 1)) (xs (i + 2)) (xs (i + 3)) hM) (rcv Xm G.m (hLm 500 rfl) (cO10 rfl) rfl) rfl rfl ⟨(Nat.le_of_ble_eq_true rfl), (Nat.le_of_ble_eq_true rfl)⟩ rfl hl.1 rfl (Nat.le_of_ble_eq_true rfl) dL_law_458 ⟨hca, hsl⟩ (fun H locs G => ?_)
  refine lv_icmp_eq (tgt := 1152) hx hb dL_law_461 (by decide) (fun _ => ?_) (fun h9 => absurd rfl h9)
  exact kk Ec _ _ ⟨by rw [hLL]; rfl, fun _ _ => rfl, fun k hk => by rw [hLL]; exact hk⟩ G
set_option maxRecDepth 100000 in
theorem lw_case_10 {p : Program} {l : Launch} {e : Env} {s : State} {m : MethodId} {args : Array Value} {below : List Frame} {meth : Method} {c : Code} {H : Heap} {locs : List Loc} {Q : State → Prop} {ls : Array Slot} {Ec Em : Ev} {A : Nat → Prop} {b L i ca sl : Nat} {xs : Nat → Int32} {x3 : Int32} {c0 m0 : St} {L0 : List Nat} {r : Int32} {L1 : List Nat} {c1 m1 : St} (hL : L ≤ 3072) (hX : va_X b L xs s s.heap) (hbl : b < s.heap.size) (hbA : ¬ A b) (ex : x3 = nI i) (hi : i + 6 ≤ L) (Xc : CX p s m args c Ec R_law code 4 A) (Xm : CX p s m args c Em R_law code 4 A) (hN : KN s) (hLc : ∀ k, fxC k = true → k ∈ eL Ec) (hLm : ∀ k, fxM k = true → k ∈ eL Em) (hLL : L0 = eL Ec) (G : G2 Ec Em c0 m0 A s H locs) (hC : fX9_hide (xs (i + 1)) (xs (i + 2)) c0 = some (r, c1)) (hM : fX10_hide (xs (i + 1)) (xs (i + 2)) m0 = some (r, m1)) (hca : ca + 12 ≤ 600000) (hsl : sl + 980 ≤ 7302250) (hl : lv_has ls 4 [(0, .ref b), (1, .ref (eq Ec 0)), (2, .ref (eq Em 500)), (3, .int x3)]) (kk : ∀ (E2 : Ev) (H : Heap) (locs : List Loc), Ext Ec E2 L0 → G2 E2 Em c1 m1 A s H locs → W p l e room_1 s m args below meth c H locs (ca + 12) (sl + 980) Q (F0 m 1152 ls [])) : W p l e room_1 s m args below meth c H locs ca sl Q (F0 m 466 ls []) := by
  have hx := Xc.1.1
  have hb := Xc.1.2.1
  refine lv_aload_n hx hb dL_law_466 rfl (lv_at hl 1 rfl) ?_
  refine lv_aload_n hx hb dL_law_467 rfl (lv_at hl 0 rfl) ?_
  refine lv_iload_n hx hb dL_law_468 rfl (lv_at hl 3 rfl) ?_
  refine lv_iconst (v := (1 : Int32)) hx hb dL_law_469 (by decide) ?_
  refine lv_iadd hx hb dL_law_470 ?_
  refine sld hx hb hX hbl hbA G.2.2.2 (j := 1) ex rfl (by omega) hL dL_law_471 ?_
  refine lv_aload_n hx hb dL_law_472 rfl (lv_at hl 0 rfl) ?_
  refine lv_iload_n hx hb dL_law_473 rfl (lv_at hl 3 rfl) ?_
  refine lv_iconst (v := (2 : Int32)) hx hb dL_law_474 (by decide) ?_
  refine lv_iadd hx hb dL_law_475 ?_
  refine sld hx hb hX hbl hbA G.2.2.2 (j := 2) ex rfl (by omega) hL dL_law_476 ?_
  refine W.widen (k := ca + 12) (n := sl + 980) (by omega) (by omega) ?_
  refine lcW (As := [.int (xs (i + 1)), .int (xs (i + 2))]) (rest := []) Xc G kc_L_58 (tX9_hide l Ec c0 _ hLc (xs (i + 1)) (xs (i + 2)) hC) (rcv Xc G.c (hLc 0 rfl) (cO9 rfl) rfl) rfl rfl ⟨(Nat.le_of_ble_eq_true rfl), (Nat.le_of_ble_eq_true rfl)⟩ rfl hl.1 rfl (Nat.le_of_ble_eq_true rfl) dL_law_477 ⟨hca, hsl⟩ (fun H locs G => ?_)
  refine lv_aload_n hx hb dL_law_480 rfl (lv_at hl 2 rfl) ?_
  refine lv_aload_n hx hb dL_law_481 rfl (lv_at hl 0 rfl) ?_
  refine lv_iload_n hx hb dL_law_482 rfl (lv_at hl 3 rfl) ?_
  refine lv_iconst (v := (1 : Int32)) hx hb dL_law_483 (by decide) ?_
  refine lv_iadd hx hb dL_law_484 ?_
  refine sld hx hb hX hbl hbA G.2.2.2 (j := 1) ex rfl (by omega) hL dL_law_485 ?_
  refine lv_aload_n hx hb dL_law_486 rfl (lv_at hl 0 rfl) ?_
  refine lv_iload_n hx hb dL_law_487 rfl (lv_at hl 3 rfl) ?_
  refine lv_iconst (v := (2 : Int32)) hx hb dL_law_488 (by decide) ?_
  refine lv_iadd hx hb dL_law_489 ?_
  refine sld hx hb hX hbl hbA G.2.2.2 (j := 2) ex rfl (by omega) hL dL_law_490 ?_
  refine lmW (As := [.int (xs (i + 1)), .int (xs (i + 2))]) (rest := [.int r]) Xm G kc_L_61 (tX10_hide l Em m0 _ hLm (xs (i + 1)) (xs (i + 2)) hM) (rcv Xm G.m (hLm 500 rfl) (cO10 rfl) rfl) rfl rfl ⟨(Nat.le_of_ble_eq_true rfl), (Nat.le_of_ble_eq_true rfl)⟩ rfl hl.1 rfl (Nat.le_of_ble_eq_true rfl) dL_law_491 ⟨hca, hsl⟩ (fun H locs G => ?_)
  refine lv_icmp_eq (tgt := 1152) hx hb dL_law_494 (by decide) (fun _ => ?_) (fun h9 => absurd rfl h9)
  exact kk Ec _ _ ⟨by rw [hLL]; rfl, fun _ _ => rfl, fun k hk => by rw [hLL]; exact hk⟩ G
set_option maxRecDepth 100000 in
theorem lw_case_11 {p : Program} {l : Launch} {e : Env} {s : State} {m : MethodId} {args : Array Value} {below : List Frame} {meth : Method} {c : Code} {H : Heap} {locs : List Loc} {Q : State → Prop} {ls : Array Slot} {Ec Em : Ev} {A : Nat → Prop} {b L i ca sl : Nat} {xs : Nat → Int32} {x3 : Int32} {c0 m0 : St} {L0 : List Nat} {r : Int32} {L1 : List Nat} {c1 m1 : St} (hL : L ≤ 3072) (hX : va_X b L xs s s.heap) (hbl : b < s.heap.size) (hbA : ¬ A b) (ex : x3 = nI i) (hi : i + 6 ≤ L) (Xc : CX p s m args c Ec R_law code 4 A) (Xm : CX p s m args c Em R_law code 4 A) (hN : KN s) (hLc : ∀ k, fxC k = true → k ∈ eL Ec) (hLm : ∀ k, fxM k = true → k ∈ eL Em) (hLL : L0 = eL Ec) (G : G2 Ec Em c0 m0 A s H locs) (hC : fX9_lift (xs (i + 1)) c0 = some (r, c1)) (hM : fX10_lift (xs (i + 1)) m0 = some (r, m1)) (hca : ca + 12 ≤ 600000) (hsl : sl + 980 ≤ 7302250) (hl : lv_has ls 4 [(0, .ref b), (1, .ref (eq Ec 0)), (2, .ref (eq Em 500)), (3, .int x3)]) (kk : ∀ (E2 : Ev) (H : Heap) (locs : List Loc), Ext Ec E2 L0 → G2 E2 Em c1 m1 A s H locs → W p l e room_1 s m args below meth c H locs (ca + 12) (sl + 980) Q (F0 m 1152 ls [])) : W p l e room_1 s m args below meth c H locs ca sl Q (F0 m 499 ls []) := by
  have hx := Xc.1.1
  have hb := Xc.1.2.1
  refine lv_aload_n hx hb dL_law_499 rfl (lv_at hl 1 rfl) ?_
  refine lv_aload_n hx hb dL_law_500 rfl (lv_at hl 0 rfl) ?_
  refine lv_iload_n hx hb dL_law_501 rfl (lv_at hl 3 rfl) ?_
  refine lv_iconst (v := (1 : Int32)) hx hb dL_law_502 (by decide) ?_
  refine lv_iadd hx hb dL_law_503 ?_
  refine sld hx hb hX hbl hbA G.2.2.2 (j := 1) ex rfl (by omega) hL dL_law_504 ?_
  refine W.widen (k := ca + 12) (n := sl + 980) (by omega) (by omega) ?_
  refine lcW (As := [.int (xs (i + 1))]) (rest := []) Xc G kc_L_62 (tX9_lift l Ec c0 _ hLc (xs (i + 1)) hC) (rcv Xc G.c (hLc 0 rfl) (cO9 rfl) rfl) rfl rfl ⟨(Nat.le_of_ble_eq_true rfl), (Nat.le_of_ble_eq_true rfl)⟩ rfl hl.1 rfl (Nat.le_of_ble_eq_true rfl) dL_law_505 ⟨hca, hsl⟩ (fun H locs G => ?_)
  refine lv_aload_n hx hb dL_law_508 rfl (lv_at hl 2 rfl) ?_
  refine lv_aload_n hx hb dL_law_509 rfl (lv_at hl 0 rfl) ?_
  refine lv_iload_n hx hb dL_law_510 rfl (lv_at hl 3 rfl) ?_
  refine lv_iconst (v := (1 : Int32)) hx hb dL_law_511 (by decide) ?_
  refine lv_iadd hx hb dL_law_512 ?_
  refine sld hx hb hX hbl hbA G.2.2.2 (j := 1) ex rfl (by omega) hL dL_law_513 ?_
  refine lmW (As := [.int (xs (i + 1))]) (rest := [.int r]) Xm G kc_L_65 (tX10_lift l Em m0 _ hLm (xs (i + 1)) hM) (rcv Xm G.m (hLm 500 rfl) (cO10 rfl) rfl) rfl rfl ⟨(Nat.le_of_ble_eq_true rfl), (Nat.le_of_ble_eq_true rfl)⟩ rfl hl.1 rfl (Nat.le_of_ble_eq_true rfl) dL_law_514 ⟨hca, hsl⟩ (fun H locs G => ?_)
  refine lv_icmp_eq (tgt := 1152) hx hb dL_law_517 (by decide) (fun _ => ?_) (fun h9 => absurd rfl h9)
  exact kk Ec _ _ ⟨by rw [hLL]; rfl, fun _ _ => rfl, fun k hk => by rw [hLL]; exact hk⟩ G
set_option maxRecDepth 100000 in
theorem lw_case_12 {p : Program} {l : Launch} {e : Env} {s : State} {m : MethodId} {args : Array Value} {below : List Frame} {meth : Method} {c : Code} {H : Heap} {locs : List Loc} {Q : State → Prop} {ls : Array Slot} {Ec Em : Ev} {A : Nat → Prop} {b L i ca sl : Nat} {xs : Nat → Int32} {x3 : Int32} {c0 m0 : St} {L0 : List Nat} {r : Int32} {L1 : List Nat} {c1 m1 : St} (hL : L ≤ 3072) (hX : va_X b L xs s s.heap) (hbl : b < s.heap.size) (hbA : ¬ A b) (ex : x3 = nI i) (hi : i + 6 ≤ L) (Xc : CX p s m args c Ec R_law code 4 A) (Xm : CX p s m args c Em R_law code 4 A) (hN : KN s) (hLc : ∀ k, fxC k = true → k ∈ eL Ec) (hLm : ∀ k, fxM k = true → k ∈ eL Em) (hLL : L0 = eL Ec) (G : G2 Ec Em c0 m0 A s H locs) (hC : fX9_spit (xs (i + 1)) c0 = some (r, c1)) (hM : fX10_spit (xs (i + 1)) m0 = some (r, m1)) (hca : ca + 12 ≤ 600000) (hsl : sl + 980 ≤ 7302250) (hl : lv_has ls 4 [(0, .ref b), (1, .ref (eq Ec 0)), (2, .ref (eq Em 500)), (3, .int x3)]) (kk : ∀ (E2 : Ev) (H : Heap) (locs : List Loc), Ext Ec E2 L0 → G2 E2 Em c1 m1 A s H locs → W p l e room_1 s m args below meth c H locs (ca + 12) (sl + 980) Q (F0 m 1152 ls [])) : W p l e room_1 s m args below meth c H locs ca sl Q (F0 m 522 ls []) := by
  have hx := Xc.1.1
  have hb := Xc.1.2.1
  refine lv_aload_n hx hb dL_law_522 rfl (lv_at hl 1 rfl) ?_
  refine lv_aload_n hx hb dL_law_523 rfl (lv_at hl 0 rfl) ?_
  refine lv_iload_n hx hb dL_law_524 rfl (lv_at hl 3 rfl) ?_
  refine lv_iconst (v := (1 : Int32)) hx hb dL_law_525 (by decide) ?_
  refine lv_iadd hx hb dL_law_526 ?_
  refine sld hx hb hX hbl hbA G.2.2.2 (j := 1) ex rfl (by omega) hL dL_law_527 ?_
  refine W.widen (k := ca + 12) (n := sl + 980) (by omega) (by omega) ?_
  refine lcW (As := [.int (xs (i + 1))]) (rest := []) Xc G kc_L_66 (tX9_spit l Ec c0 _ hLc (xs (i + 1)) hC) (rcv Xc G.c (hLc 0 rfl) (cO9 rfl) rfl) rfl rfl ⟨(Nat.le_of_ble_eq_true rfl), (Nat.le_of_ble_eq_true rfl)⟩ rfl hl.1 rfl (Nat.le_of_ble_eq_true rfl) dL_law_528 ⟨hca, hsl⟩ (fun H locs G => ?_)
  refine lv_aload_n hx hb dL_law_531 rfl (lv_at hl 2 rfl) ?_
  refine lv_aload_n hx hb dL_law_532 rfl (lv_at hl 0 rfl) ?_
  refine lv_iload_n hx hb dL_law_533 rfl (lv_at hl 3 rfl) ?_
  refine lv_iconst (v := (1 : Int32)) hx hb dL_law_534 (by decide) ?_
  refine lv_iadd hx hb dL_law_535 ?_
  refine sld hx hb hX hbl hbA G.2.2.2 (j := 1) ex rfl (by omega) hL dL_law_536 ?_
  refine lmW (As := [.int (xs (i + 1))]) (rest := [.int r]) Xm G kc_L_69 (tX10_spit l Em m0 _ hLm (xs (i + 1)) hM) (rcv Xm G.m (hLm 500 rfl) (cO10 rfl) rfl) rfl rfl ⟨(Nat.le_of_ble_eq_true rfl), (Nat.le_of_ble_eq_true rfl)⟩ rfl hl.1 rfl (Nat.le_of_ble_eq_true rfl) dL_law_537 ⟨hca, hsl⟩ (fun H locs G => ?_)
  refine lv_icmp_eq (tgt := 1152) hx hb dL_law_540 (by decide) (fun _ => ?_) (fun h9 => absurd rfl h9)
  exact kk Ec _ _ ⟨by rw [hLL]; rfl, fun _ _ => rfl, fun k hk => by rw [hLL]; exact hk⟩ G
set_option maxRecDepth 100000 in
theorem lw_case_13 {p : Program} {l : Launch} {e : Env} {s : State} {m : MethodId} {args : Array Value} {below : List Frame} {meth : Method} {c : Code} {H : Heap} {locs : List Loc} {Q : State → Prop} {ls : Array Slot} {Ec Em : Ev} {A : Nat → Prop} {b L i ca sl : Nat} {xs : Nat → Int32} {x3 : Int32} {c0 m0 : St} {L0 : List Nat} {r : Int32} {L1 : List Nat} {c1 m1 : St} (hL : L ≤ 3072) (hX : va_X b L xs s s.heap) (hbl : b < s.heap.size) (hbA : ¬ A b) (ex : x3 = nI i) (hi : i + 6 ≤ L) (Xc : CX p s m args c Ec R_law code 4 A) (Xm : CX p s m args c Em R_law code 4 A) (hN : KN s) (hLc : ∀ k, fxC k = true → k ∈ eL Ec) (hLm : ∀ k, fxM k = true → k ∈ eL Em) (hLL : L0 = eL Ec) (G : G2 Ec Em c0 m0 A s H locs) (hC : fX9_undo c0 = some (r, c1)) (hM : fX10_undo m0 = some (r, m1)) (hca : ca + 12 ≤ 600000) (hsl : sl + 980 ≤ 7302250) (hl : lv_has ls 4 [(0, .ref b), (1, .ref (eq Ec 0)), (2, .ref (eq Em 500)), (3, .int x3)]) (kk : ∀ (E2 : Ev) (H : Heap) (locs : List Loc), Ext Ec E2 L0 → G2 E2 Em c1 m1 A s H locs → W p l e room_1 s m args below meth c H locs (ca + 12) (sl + 980) Q (F0 m 1152 ls [])) : W p l e room_1 s m args below meth c H locs ca sl Q (F0 m 545 ls []) := by
  have hx := Xc.1.1
  have hb := Xc.1.2.1
  refine lv_aload_n hx hb dL_law_545 rfl (lv_at hl 1 rfl) ?_
  refine W.widen (k := ca + 12) (n := sl + 980) (by omega) (by omega) ?_
  refine lcW (As := []) (rest := []) Xc G kc_L_70 (tX9_undo l Ec c0 _ hLc  hC) (rcv Xc G.c (hLc 0 rfl) (cO9 rfl) rfl) rfl rfl ⟨(Nat.le_of_ble_eq_true rfl), (Nat.le_of_ble_eq_true rfl)⟩ rfl hl.1 rfl (Nat.le_of_ble_eq_true rfl) dL_law_546 ⟨hca, hsl⟩ (fun H locs G => ?_)
  refine lv_aload_n hx hb dL_law_549 rfl (lv_at hl 2 rfl) ?_
  refine lmW (As := []) (rest := [.int r]) Xm G kc_L_73 (tX10_undo l Em m0 _ hLm  hM) (rcv Xm G.m (hLm 500 rfl) (cO10 rfl) rfl) rfl rfl ⟨(Nat.le_of_ble_eq_true rfl), (Nat.le_of_ble_eq_true rfl)⟩ rfl hl.1 rfl (Nat.le_of_ble_eq_true rfl) dL_law_550 ⟨hca, hsl⟩ (fun H locs G => ?_)
  refine lv_icmp_eq (tgt := 1152) hx hb dL_law_553 (by decide) (fun _ => ?_) (fun h9 => absurd rfl h9)
  exact kk Ec _ _ ⟨by rw [hLL]; rfl, fun _ _ => rfl, fun k hk => by rw [hLL]; exact hk⟩ G
set_option maxRecDepth 100000 in
theorem lw_case_14 {p : Program} {l : Launch} {e : Env} {s : State} {m : MethodId} {args : Array Value} {below : List Frame} {meth : Method} {c : Code} {H : Heap} {locs : List Loc} {Q : State → Prop} {ls : Array Slot} {Ec Em : Ev} {A : Nat → Prop} {b L i ca sl : Nat} {xs : Nat → Int32} {x3 : Int32} {c0 m0 : St} {L0 : List Nat} {r : Int32} {L1 : List Nat} {c1 m1 : St} (hL : L ≤ 3072) (hX : va_X b L xs s s.heap) (hbl : b < s.heap.size) (hbA : ¬ A b) (ex : x3 = nI i) (hi : i + 6 ≤ L) (Xc : CX p s m args c Ec R_law code 4 A) (Xm : CX p s m args c Em R_law code 4 A) (hN : KN s) (hLc : ∀ k, fxC k = true → k ∈ eL Ec) (hLm : ∀ k, fxM k = true → k ∈ eL Em) (hLL : L0 = eL Ec) (G : G2 Ec Em c0 m0 A s H locs) (hC : fX9_ahead L0 (xs (i + 1)) (xs (i + 2)) (xs (i + 3)) c0 = some (r, c1)) (hM : fX10_ahead (xs (i + 1)) (xs (i + 2)) (xs (i + 3)) m0 = some (r, m1)) (hca : ca + 12 ≤ 600000) (hsl : sl + 980 ≤ 7302250) (hl : lv_has ls 4 [(0, .ref b), (1, .ref (eq Ec 0)), (2, .ref (eq Em 500)), (3, .int x3)]) (kk : ∀ (E2 : Ev) (H : Heap) (locs : List Loc), Ext Ec E2 L0 → G2 E2 Em c1 m1 A s H locs → W p l e room_1 s m args below meth c H locs (ca + 12) (sl + 980) Q (F0 m 1152 ls [])) : W p l e room_1 s m args below meth c H locs ca sl Q (F0 m 558 ls []) := by
  have hx := Xc.1.1
  have hb := Xc.1.2.1
  refine lv_aload_n hx hb dL_law_558 rfl (lv_at hl 1 rfl) ?_
  refine lv_aload_n hx hb dL_law_559 rfl (lv_at hl 0 rfl) ?_
  refine lv_iload_n hx hb dL_law_560 rfl (lv_at hl 3 rfl) ?_
  refine lv_iconst (v := (1 : Int32)) hx hb dL_law_561 (by decide) ?_
  refine lv_iadd hx hb dL_law_562 ?_
  refine sld hx hb hX hbl hbA G.2.2.2 (j := 1) ex rfl (by omega) hL dL_law_563 ?_
  refine lv_aload_n hx hb dL_law_564 rfl (lv_at hl 0 rfl) ?_
  refine lv_iload_n hx hb dL_law_565 rfl (lv_at hl 3 rfl) ?_
  refine lv_iconst (v := (2 : Int32)) hx hb dL_law_566 (by decide) ?_
  refine lv_iadd hx hb dL_law_567 ?_
  refine sld hx hb hX hbl hbA G.2.2.2 (j := 2) ex rfl (by omega) hL dL_law_568 ?_
  refine lv_aload_n hx hb dL_law_569 rfl (lv_at hl 0 rfl) ?_
  refine lv_iload_n hx hb dL_law_570 rfl (lv_at hl 3 rfl) ?_
  refine lv_iconst (v := (3 : Int32)) hx hb dL_law_571 (by decide) ?_
  refine lv_iadd hx hb dL_law_572 ?_
  refine sld hx hb hX hbl hbA G.2.2.2 (j := 3) ex rfl (by omega) hL dL_law_573 ?_
  refine W.widen (k := ca + 12) (n := sl + 980) (by omega) (by omega) ?_
  refine lcW (As := [.int (xs (i + 1)), .int (xs (i + 2)), .int (xs (i + 3))]) (rest := []) Xc G kc_L_74 (tX9_ahead l Ec c0 _ hLc hLL (xs (i + 1)) (xs (i + 2)) (xs (i + 3)) hC) (rcv Xc G.c (hLc 0 rfl) (cO9 rfl) rfl) rfl rfl ⟨(Nat.le_of_ble_eq_true rfl), (Nat.le_of_ble_eq_true rfl)⟩ rfl hl.1 rfl (Nat.le_of_ble_eq_true rfl) dL_law_574 ⟨hca, hsl⟩ (fun H locs G => ?_)
  refine lv_aload_n hx hb dL_law_577 rfl (lv_at hl 2 rfl) ?_
  refine lv_aload_n hx hb dL_law_578 rfl (lv_at hl 0 rfl) ?_
  refine lv_iload_n hx hb dL_law_579 rfl (lv_at hl 3 rfl) ?_
  refine lv_iconst (v := (1 : Int32)) hx hb dL_law_580 (by decide) ?_
  refine lv_iadd hx hb dL_law_581 ?_
  refine sld hx hb hX hbl hbA G.2.2.2 (j := 1) ex rfl (by omega) hL dL_law_582 ?_
  refine lv_aload_n hx hb dL_law_583 rfl (lv_at hl 0 rfl) ?_
  refine lv_iload_n hx hb dL_law_584 rfl (lv_at hl 3 rfl) ?_
  refine lv_iconst (v := (2 : Int32)) hx hb dL_law_585 (by decide) ?_
  refine lv_iadd hx hb dL_law_586 ?_
  refine sld hx hb hX hbl hbA G.2.2.2 (j := 2) ex rfl (by omega) hL dL_law_587 ?_
  refine lv_aload_n hx hb dL_law_588 rfl (lv_at hl 0 rfl) ?_
  refine lv_iload_n hx hb dL_law_589 rfl (lv_at hl 3 rfl) ?_
  refine lv_iconst (v := (3 : Int32)) hx hb dL_law_590 (by decide) ?_
  refine lv_iadd hx hb dL_law_591 ?_
  refine sld hx hb hX hbl hbA G.2.2.2 (j := 3) ex rfl (by omega) hL dL_law_592 ?_
  refine lmW (As := [.int (xs (i + 1)), .int (xs (i + 2)), .int (xs (i + 3))]) (rest := [.int r]) Xm G kc_L_77 (tX10_ahead l Em m0 _ hLm (xs (i + 1)) (xs (i + 2)) (xs (i + 3)) hM) (rcv Xm G.m (hLm 500 rfl) (cO10 rfl) rfl) rfl rfl ⟨(Nat.le_of_ble_eq_true rfl), (Nat.le_of_ble_eq_true rfl)⟩ rfl hl.1 rfl (Nat.le_of_ble_eq_true rfl) dL_law_593 ⟨hca, hsl⟩ (fun H locs G => ?_)
  refine lv_icmp_eq (tgt := 1152) hx hb dL_law_596 (by decide) (fun _ => ?_) (fun h9 => absurd rfl h9)
  exact kk Ec _ _ ⟨by rw [hLL]; rfl, fun _ _ => rfl, fun k hk => by rw [hLL]; exact hk⟩ G
set_option maxRecDepth 100000 in
theorem lw_case_15 {p : Program} {l : Launch} {e : Env} {s : State} {m : MethodId} {args : Array Value} {below : List Frame} {meth : Method} {c : Code} {H : Heap} {locs : List Loc} {Q : State → Prop} {ls : Array Slot} {Ec Em : Ev} {A : Nat → Prop} {b L i ca sl : Nat} {xs : Nat → Int32} {x3 : Int32} {c0 m0 : St} {L0 : List Nat} {r : Int32} {L1 : List Nat} {c1 m1 : St} (hL : L ≤ 3072) (hX : va_X b L xs s s.heap) (hbl : b < s.heap.size) (hbA : ¬ A b) (ex : x3 = nI i) (hi : i + 6 ≤ L) (Xc : CX p s m args c Ec R_law code 4 A) (Xm : CX p s m args c Em R_law code 4 A) (hN : KN s) (hLc : ∀ k, fxC k = true → k ∈ eL Ec) (hLm : ∀ k, fxM k = true → k ∈ eL Em) (hLL : L0 = eL Ec) (G : G2 Ec Em c0 m0 A s H locs) (hC : fX9_freezes L0 (xs (i + 1)) c0 = some (r, c1)) (hM : fX10_freezes (xs (i + 1)) m0 = some (r, m1)) (hca : ca + 12 ≤ 600000) (hsl : sl + 980 ≤ 7302250) (hl : lv_has ls 4 [(0, .ref b), (1, .ref (eq Ec 0)), (2, .ref (eq Em 500)), (3, .int x3)]) (kk : ∀ (E2 : Ev) (H : Heap) (locs : List Loc), Ext Ec E2 L0 → G2 E2 Em c1 m1 A s H locs → W p l e room_1 s m args below meth c H locs (ca + 12) (sl + 980) Q (F0 m 1152 ls [])) : W p l e room_1 s m args below meth c H locs ca sl Q (F0 m 601 ls []) := by
  have hx := Xc.1.1
  have hb := Xc.1.2.1
  refine lv_aload_n hx hb dL_law_601 rfl (lv_at hl 1 rfl) ?_
  refine lv_aload_n hx hb dL_law_602 rfl (lv_at hl 0 rfl) ?_
  refine lv_iload_n hx hb dL_law_603 rfl (lv_at hl 3 rfl) ?_
  refine lv_iconst (v := (1 : Int32)) hx hb dL_law_604 (by decide) ?_
  refine lv_iadd hx hb dL_law_605 ?_
  refine sld hx hb hX hbl hbA G.2.2.2 (j := 1) ex rfl (by omega) hL dL_law_606 ?_
  refine W.widen (k := ca + 12) (n := sl + 980) (by omega) (by omega) ?_
  refine lcW (As := [.int (xs (i + 1))]) (rest := []) Xc G kc_L_78 (tX9_freezes l Ec c0 _ hLc hLL (xs (i + 1)) hC) (rcv Xc G.c (hLc 0 rfl) (cO9 rfl) rfl) rfl rfl ⟨(Nat.le_of_ble_eq_true rfl), (Nat.le_of_ble_eq_true rfl)⟩ rfl hl.1 rfl (Nat.le_of_ble_eq_true rfl) dL_law_607 ⟨hca, hsl⟩ (fun H locs G => ?_)
  refine lv_aload_n hx hb dL_law_610 rfl (lv_at hl 2 rfl) ?_
  refine lv_aload_n hx hb dL_law_611 rfl (lv_at hl 0 rfl) ?_
  refine lv_iload_n hx hb dL_law_612 rfl (lv_at hl 3 rfl) ?_
  refine lv_iconst (v := (1 : Int32)) hx hb dL_law_613 (by decide) ?_
  refine lv_iadd hx hb dL_law_614 ?_
  refine sld hx hb hX hbl hbA G.2.2.2 (j := 1) ex rfl (by omega) hL dL_law_615 ?_
  refine lmW (As := [.int (xs (i + 1))]) (rest := [.int r]) Xm G kc_L_81 (tX10_freezes l Em m0 _ hLm (xs (i + 1)) hM) (rcv Xm G.m (hLm 500 rfl) (cO10 rfl) rfl) rfl rfl ⟨(Nat.le_of_ble_eq_true rfl), (Nat.le_of_ble_eq_true rfl)⟩ rfl hl.1 rfl (Nat.le_of_ble_eq_true rfl) dL_law_616 ⟨hca, hsl⟩ (fun H locs G => ?_)
  refine lv_icmp_eq (tgt := 1152) hx hb dL_law_619 (by decide) (fun _ => ?_) (fun h9 => absurd rfl h9)
  exact kk Ec _ _ ⟨by rw [hLL]; rfl, fun _ _ => rfl, fun k hk => by rw [hLL]; exact hk⟩ G
set_option maxRecDepth 100000 in
theorem lw_case_16 {p : Program} {l : Launch} {e : Env} {s : State} {m : MethodId} {args : Array Value} {below : List Frame} {meth : Method} {c : Code} {H : Heap} {locs : List Loc} {Q : State → Prop} {ls : Array Slot} {Ec Em : Ev} {A : Nat → Prop} {b L i ca sl : Nat} {xs : Nat → Int32} {x3 : Int32} {c0 m0 : St} {L0 : List Nat} {r : Int32} {L1 : List Nat} {c1 m1 : St} (hL : L ≤ 3072) (hX : va_X b L xs s s.heap) (hbl : b < s.heap.size) (hbA : ¬ A b) (ex : x3 = nI i) (hi : i + 6 ≤ L) (Xc : CX p s m args c Ec R_law code 4 A) (Xm : CX p s m args c Em R_law code 4 A) (hN : KN s) (hLc : ∀ k, fxC k = true → k ∈ eL Ec) (hLm : ∀ k, fxM k = true → k ∈ eL Em) (hLL : L0 = eL Ec) (G : G2 Ec Em c0 m0 A s H locs) (hC : fX9_round (xs (i + 1)) (xs (i + 2)) (xs (i + 3)) c0 = some (r, c1)) (hM : fX10_round (xs (i + 1)) (xs (i + 2)) (xs (i + 3)) m0 = some (r, m1)) (hca : ca + 12 ≤ 600000) (hsl : sl + 980 ≤ 7302250) (hl : lv_has ls 4 [(0, .ref b), (1, .ref (eq Ec 0)), (2, .ref (eq Em 500)), (3, .int x3)]) (kk : ∀ (E2 : Ev) (H : Heap) (locs : List Loc), Ext Ec E2 L0 → G2 E2 Em c1 m1 A s H locs → W p l e room_1 s m args below meth c H locs (ca + 12) (sl + 980) Q (F0 m 1152 ls [])) : W p l e room_1 s m args below meth c H locs ca sl Q (F0 m 624 ls []) := by
  have hx := Xc.1.1
  have hb := Xc.1.2.1
  refine lv_aload_n hx hb dL_law_624 rfl (lv_at hl 1 rfl) ?_
  refine lv_aload_n hx hb dL_law_625 rfl (lv_at hl 0 rfl) ?_
  refine lv_iload_n hx hb dL_law_626 rfl (lv_at hl 3 rfl) ?_
  refine lv_iconst (v := (1 : Int32)) hx hb dL_law_627 (by decide) ?_
  refine lv_iadd hx hb dL_law_628 ?_
  refine sld hx hb hX hbl hbA G.2.2.2 (j := 1) ex rfl (by omega) hL dL_law_629 ?_
  refine lv_aload_n hx hb dL_law_630 rfl (lv_at hl 0 rfl) ?_
  refine lv_iload_n hx hb dL_law_631 rfl (lv_at hl 3 rfl) ?_
  refine lv_iconst (v := (2 : Int32)) hx hb dL_law_632 (by decide) ?_
  refine lv_iadd hx hb dL_law_633 ?_
  refine sld hx hb hX hbl hbA G.2.2.2 (j := 2) ex rfl (by omega) hL dL_law_634 ?_
  refine lv_aload_n hx hb dL_law_635 rfl (lv_at hl 0 rfl) ?_
  refine lv_iload_n hx hb dL_law_636 rfl (lv_at hl 3 rfl) ?_
  refine lv_iconst (v := (3 : Int32)) hx hb dL_law_637 (by decide) ?_
  refine lv_iadd hx hb dL_law_638 ?_
  refine sld hx hb hX hbl hbA G.2.2.2 (j := 3) ex rfl (by omega) hL dL_law_639 ?_
  refine W.widen (k := ca + 12) (n := sl + 980) (by omega) (by omega) ?_
  refine lcW (As := [.int (xs (i + 1)), .int (xs (i + 2)), .int (xs (i + 3))]) (rest := []) Xc G kc_L_82 (tX9_round l Ec c0 _ hLc (xs (i + 1)) (xs (i + 2)) (xs (i + 3)) hC) (rcv Xc G.c (hLc 0 rfl) (cO9 rfl) rfl) rfl rfl ⟨(Nat.le_of_ble_eq_true rfl), (Nat.le_of_ble_eq_true rfl)⟩ rfl hl.1 rfl (Nat.le_of_ble_eq_true rfl) dL_law_640 ⟨hca, hsl⟩ (fun H locs G => ?_)
  refine lv_aload_n hx hb dL_law_643 rfl (lv_at hl 2 rfl) ?_
  refine lv_aload_n hx hb dL_law_644 rfl (lv_at hl 0 rfl) ?_
  refine lv_iload_n hx hb dL_law_645 rfl (lv_at hl 3 rfl) ?_
  refine lv_iconst (v := (1 : Int32)) hx hb dL_law_646 (by decide) ?_
  refine lv_iadd hx hb dL_law_647 ?_
  refine sld hx hb hX hbl hbA G.2.2.2 (j := 1) ex rfl (by omega) hL dL_law_648 ?_
  refine lv_aload_n hx hb dL_law_649 rfl (lv_at hl 0 rfl) ?_
  refine lv_iload_n hx hb dL_law_650 rfl (lv_at hl 3 rfl) ?_
  refine lv_iconst (v := (2 : Int32)) hx hb dL_law_651 (by decide) ?_
  refine lv_iadd hx hb dL_law_652 ?_
  refine sld hx hb hX hbl hbA G.2.2.2 (j := 2) ex rfl (by omega) hL dL_law_653 ?_
  refine lv_aload_n hx hb dL_law_654 rfl (lv_at hl 0 rfl) ?_
  refine lv_iload_n hx hb dL_law_655 rfl (lv_at hl 3 rfl) ?_
  refine lv_iconst (v := (3 : Int32)) hx hb dL_law_656 (by decide) ?_
  refine lv_iadd hx hb dL_law_657 ?_
  refine sld hx hb hX hbl hbA G.2.2.2 (j := 3) ex rfl (by omega) hL dL_law_658 ?_
  refine lmW (As := [.int (xs (i + 1)), .int (xs (i + 2)), .int (xs (i + 3))]) (rest := [.int r]) Xm G kc_L_85 (tX10_round l Em m0 _ hLm (xs (i + 1)) (xs (i + 2)) (xs (i + 3)) hM) (rcv Xm G.m (hLm 500 rfl) (cO10 rfl) rfl) rfl rfl ⟨(Nat.le_of_ble_eq_true rfl), (Nat.le_of_ble_eq_true rfl)⟩ rfl hl.1 rfl (Nat.le_of_ble_eq_true rfl) dL_law_659 ⟨hca, hsl⟩ (fun H locs G => ?_)
  refine lv_icmp_eq (tgt := 1152) hx hb dL_law_662 (by decide) (fun _ => ?_) (fun h9 => absurd rfl h9)
  exact kk Ec _ _ ⟨by rw [hLL]; rfl, fun _ _ => rfl, fun k hk => by rw [hLL]; exact hk⟩ G
set_option maxRecDepth 100000 in
theorem lw_case_17 {p : Program} {l : Launch} {e : Env} {s : State} {m : MethodId} {args : Array Value} {below : List Frame} {meth : Method} {c : Code} {H : Heap} {locs : List Loc} {Q : State → Prop} {ls : Array Slot} {Ec Em : Ev} {A : Nat → Prop} {b L i ca sl : Nat} {xs : Nat → Int32} {x3 : Int32} {c0 m0 : St} {L0 : List Nat} {r : Int32} {L1 : List Nat} {c1 m1 : St} (hL : L ≤ 3072) (hX : va_X b L xs s s.heap) (hbl : b < s.heap.size) (hbA : ¬ A b) (ex : x3 = nI i) (hi : i + 6 ≤ L) (Xc : CX p s m args c Ec R_law code 4 A) (Xm : CX p s m args c Em R_law code 4 A) (hN : KN s) (hLc : ∀ k, fxC k = true → k ∈ eL Ec) (hLm : ∀ k, fxM k = true → k ∈ eL Em) (hLL : L0 = eL Ec) (G : G2 Ec Em c0 m0 A s H locs) (hC : fX9_span (xs (i + 1)) (xs (i + 2)) (xs (i + 3)) c0 = some (r, c1)) (hM : fX10_span (xs (i + 1)) (xs (i + 2)) (xs (i + 3)) m0 = some (r, m1)) (hca : ca + 12 ≤ 600000) (hsl : sl + 980 ≤ 7302250) (hl : lv_has ls 4 [(0, .ref b), (1, .ref (eq Ec 0)), (2, .ref (eq Em 500)), (3, .int x3)]) (kk : ∀ (E2 : Ev) (H : Heap) (locs : List Loc), Ext Ec E2 L0 → G2 E2 Em c1 m1 A s H locs → W p l e room_1 s m args below meth c H locs (ca + 12) (sl + 980) Q (F0 m 1152 ls [])) : W p l e room_1 s m args below meth c H locs ca sl Q (F0 m 667 ls []) := by
  have hx := Xc.1.1
  have hb := Xc.1.2.1
  refine lv_aload_n hx hb dL_law_667 rfl (lv_at hl 1 rfl) ?_
  refine lv_aload_n hx hb dL_law_668 rfl (lv_at hl 0 rfl) ?_
  refine lv_iload_n hx hb dL_law_669 rfl (lv_at hl 3 rfl) ?_
  refine lv_iconst (v := (1 : Int32)) hx hb dL_law_670 (by decide) ?_
  refine lv_iadd hx hb dL_law_671 ?_
  refine sld hx hb hX hbl hbA G.2.2.2 (j := 1) ex rfl (by omega) hL dL_law_672 ?_
  refine lv_aload_n hx hb dL_law_673 rfl (lv_at hl 0 rfl) ?_
  refine lv_iload_n hx hb dL_law_674 rfl (lv_at hl 3 rfl) ?_
  refine lv_iconst (v := (2 : Int32)) hx hb dL_law_675 (by decide) ?_
  refine lv_iadd hx hb dL_law_676 ?_
  refine sld hx hb hX hbl hbA G.2.2.2 (j := 2) ex rfl (by omega) hL dL_law_677 ?_
  refine lv_aload_n hx hb dL_law_678 rfl (lv_at hl 0 rfl) ?_
  refine lv_iload_n hx hb dL_law_679 rfl (lv_at hl 3 rfl) ?_
  refine lv_iconst (v := (3 : Int32)) hx hb dL_law_680 (by decide) ?_
  refine lv_iadd hx hb dL_law_681 ?_
  refine sld hx hb hX hbl hbA G.2.2.2 (j := 3) ex rfl (by omega) hL dL_law_682 ?_
  refine W.widen (k := ca + 12) (n := sl + 980) (by omega) (by omega) ?_
  refine lcW (As := [.int (xs (i + 1)), .int (xs (i + 2)), .int (xs (i + 3))]) (rest := []) Xc G kc_L_86 (tX9_span l Ec c0 _ hLc (xs (i + 1)) (xs (i + 2)) (xs (i + 3)) hC) (rcv Xc G.c (hLc 0 rfl) (cO9 rfl) rfl) rfl rfl ⟨(Nat.le_of_ble_eq_true rfl), (Nat.le_of_ble_eq_true rfl)⟩ rfl hl.1 rfl (Nat.le_of_ble_eq_true rfl) dL_law_683 ⟨hca, hsl⟩ (fun H locs G => ?_)
  refine lv_aload_n hx hb dL_law_686 rfl (lv_at hl 2 rfl) ?_
  refine lv_aload_n hx hb dL_law_687 rfl (lv_at hl 0 rfl) ?_
  refine lv_iload_n hx hb dL_law_688 rfl (lv_at hl 3 rfl) ?_
  refine lv_iconst (v := (1 : Int32)) hx hb dL_law_689 (by decide) ?_
  refine lv_iadd hx hb dL_law_690 ?_
  refine sld hx hb hX hbl hbA G.2.2.2 (j := 1) ex rfl (by omega) hL dL_law_691 ?_
  refine lv_aload_n hx hb dL_law_692 rfl (lv_at hl 0 rfl) ?_
  refine lv_iload_n hx hb dL_law_693 rfl (lv_at hl 3 rfl) ?_
  refine lv_iconst (v := (2 : Int32)) hx hb dL_law_694 (by decide) ?_
  refine lv_iadd hx hb dL_law_695 ?_
  refine sld hx hb hX hbl hbA G.2.2.2 (j := 2) ex rfl (by omega) hL dL_law_696 ?_
  refine lv_aload_n hx hb dL_law_697 rfl (lv_at hl 0 rfl) ?_
  refine lv_iload_n hx hb dL_law_698 rfl (lv_at hl 3 rfl) ?_
  refine lv_iconst (v := (3 : Int32)) hx hb dL_law_699 (by decide) ?_
  refine lv_iadd hx hb dL_law_700 ?_
  refine sld hx hb hX hbl hbA G.2.2.2 (j := 3) ex rfl (by omega) hL dL_law_701 ?_
  refine lmW (As := [.int (xs (i + 1)), .int (xs (i + 2)), .int (xs (i + 3))]) (rest := [.int r]) Xm G kc_L_89 (tX10_span l Em m0 _ hLm (xs (i + 1)) (xs (i + 2)) (xs (i + 3)) hM) (rcv Xm G.m (hLm 500 rfl) (cO10 rfl) rfl) rfl rfl ⟨(Nat.le_of_ble_eq_true rfl), (Nat.le_of_ble_eq_true rfl)⟩ rfl hl.1 rfl (Nat.le_of_ble_eq_true rfl) dL_law_702 ⟨hca, hsl⟩ (fun H locs G => ?_)
  refine lv_icmp_eq (tgt := 1152) hx hb dL_law_705 (by decide) (fun _ => ?_) (fun h9 => absurd rfl h9)
  exact kk Ec _ _ ⟨by rw [hLL]; rfl, fun _ _ => rfl, fun k hk => by rw [hLL]; exact hk⟩ G
set_option maxRecDepth 100000 in
theorem lw_case_18 {p : Program} {l : Launch} {e : Env} {s : State} {m : MethodId} {args : Array Value} {below : List Frame} {meth : Method} {c : Code} {H : Heap} {locs : List Loc} {Q : State → Prop} {ls : Array Slot} {Ec Em : Ev} {A : Nat → Prop} {b L i ca sl : Nat} {xs : Nat → Int32} {x3 : Int32} {c0 m0 : St} {L0 : List Nat} {r : Int32} {L1 : List Nat} {c1 m1 : St} (hL : L ≤ 3072) (hX : va_X b L xs s s.heap) (hbl : b < s.heap.size) (hbA : ¬ A b) (ex : x3 = nI i) (hi : i + 6 ≤ L) (Xc : CX p s m args c Ec R_law code 4 A) (Xm : CX p s m args c Em R_law code 4 A) (hN : KN s) (hLc : ∀ k, fxC k = true → k ∈ eL Ec) (hLm : ∀ k, fxM k = true → k ∈ eL Em) (hLL : L0 = eL Ec) (G : G2 Ec Em c0 m0 A s H locs) (hC : fX9_logs L0 (xs (i + 1)) (xs (i + 2)) c0 = some (r, c1)) (hM : fX10_logs (xs (i + 1)) (xs (i + 2)) m0 = some (r, m1)) (hca : ca + 12 ≤ 600000) (hsl : sl + 980 ≤ 7302250) (hl : lv_has ls 4 [(0, .ref b), (1, .ref (eq Ec 0)), (2, .ref (eq Em 500)), (3, .int x3)]) (kk : ∀ (E2 : Ev) (H : Heap) (locs : List Loc), Ext Ec E2 L0 → G2 E2 Em c1 m1 A s H locs → W p l e room_1 s m args below meth c H locs (ca + 12) (sl + 980) Q (F0 m 1152 ls [])) : W p l e room_1 s m args below meth c H locs ca sl Q (F0 m 710 ls []) := by
  have hx := Xc.1.1
  have hb := Xc.1.2.1
  refine lv_aload_n hx hb dL_law_710 rfl (lv_at hl 1 rfl) ?_
  refine lv_aload_n hx hb dL_law_711 rfl (lv_at hl 0 rfl) ?_
  refine lv_iload_n hx hb dL_law_712 rfl (lv_at hl 3 rfl) ?_
  refine lv_iconst (v := (1 : Int32)) hx hb dL_law_713 (by decide) ?_
  refine lv_iadd hx hb dL_law_714 ?_
  refine sld hx hb hX hbl hbA G.2.2.2 (j := 1) ex rfl (by omega) hL dL_law_715 ?_
  refine lv_aload_n hx hb dL_law_716 rfl (lv_at hl 0 rfl) ?_
  refine lv_iload_n hx hb dL_law_717 rfl (lv_at hl 3 rfl) ?_
  refine lv_iconst (v := (2 : Int32)) hx hb dL_law_718 (by decide) ?_
  refine lv_iadd hx hb dL_law_719 ?_
  refine sld hx hb hX hbl hbA G.2.2.2 (j := 2) ex rfl (by omega) hL dL_law_720 ?_
  refine W.widen (k := ca + 12) (n := sl + 980) (by omega) (by omega) ?_
  refine lcW (As := [.int (xs (i + 1)), .int (xs (i + 2))]) (rest := []) Xc G kc_L_90 (tX9_logs l Ec c0 _ hLc hLL (xs (i + 1)) (xs (i + 2)) hC) (rcv Xc G.c (hLc 0 rfl) (cO9 rfl) rfl) rfl rfl ⟨(Nat.le_of_ble_eq_true rfl), (Nat.le_of_ble_eq_true rfl)⟩ rfl hl.1 rfl (Nat.le_of_ble_eq_true rfl) dL_law_721 ⟨hca, hsl⟩ (fun H locs G => ?_)
  refine lv_aload_n hx hb dL_law_724 rfl (lv_at hl 2 rfl) ?_
  refine lv_aload_n hx hb dL_law_725 rfl (lv_at hl 0 rfl) ?_
  refine lv_iload_n hx hb dL_law_726 rfl (lv_at hl 3 rfl) ?_
  refine lv_iconst (v := (1 : Int32)) hx hb dL_law_727 (by decide) ?_
  refine lv_iadd hx hb dL_law_728 ?_
  refine sld hx hb hX hbl hbA G.2.2.2 (j := 1) ex rfl (by omega) hL dL_law_729 ?_
  refine lv_aload_n hx hb dL_law_730 rfl (lv_at hl 0 rfl) ?_
  refine lv_iload_n hx hb dL_law_731 rfl (lv_at hl 3 rfl) ?_
  refine lv_iconst (v := (2 : Int32)) hx hb dL_law_732 (by decide) ?_
  refine lv_iadd hx hb dL_law_733 ?_
  refine sld hx hb hX hbl hbA G.2.2.2 (j := 2) ex rfl (by omega) hL dL_law_734 ?_
  refine lmW (As := [.int (xs (i + 1)), .int (xs (i + 2))]) (rest := [.int r]) Xm G kc_L_93 (tX10_logs l Em m0 _ hLm (xs (i + 1)) (xs (i + 2)) hM) (rcv Xm G.m (hLm 500 rfl) (cO10 rfl) rfl) rfl rfl ⟨(Nat.le_of_ble_eq_true rfl), (Nat.le_of_ble_eq_true rfl)⟩ rfl hl.1 rfl (Nat.le_of_ble_eq_true rfl) dL_law_735 ⟨hca, hsl⟩ (fun H locs G => ?_)
  refine lv_icmp_eq (tgt := 1152) hx hb dL_law_738 (by decide) (fun _ => ?_) (fun h9 => absurd rfl h9)
  exact kk Ec _ _ ⟨by rw [hLL]; rfl, fun _ _ => rfl, fun k hk => by rw [hLL]; exact hk⟩ G
set_option maxRecDepth 100000 in
theorem lw_case_19 {p : Program} {l : Launch} {e : Env} {s : State} {m : MethodId} {args : Array Value} {below : List Frame} {meth : Method} {c : Code} {H : Heap} {locs : List Loc} {Q : State → Prop} {ls : Array Slot} {Ec Em : Ev} {A : Nat → Prop} {b L i ca sl : Nat} {xs : Nat → Int32} {x3 : Int32} {c0 m0 : St} {L0 : List Nat} {r : Int32} {L1 : List Nat} {c1 m1 : St} (hL : L ≤ 3072) (hX : va_X b L xs s s.heap) (hbl : b < s.heap.size) (hbA : ¬ A b) (ex : x3 = nI i) (hi : i + 6 ≤ L) (Xc : CX p s m args c Ec R_law code 4 A) (Xm : CX p s m args c Em R_law code 4 A) (hN : KN s) (hLc : ∀ k, fxC k = true → k ∈ eL Ec) (hLm : ∀ k, fxM k = true → k ∈ eL Em) (hLL : L0 = eL Ec) (G : G2 Ec Em c0 m0 A s H locs) (hC : fX9_rate L0 (xs (i + 1)) c0 = some (r, c1)) (hM : fX10_rate (xs (i + 1)) m0 = some (r, m1)) (hca : ca + 12 ≤ 600000) (hsl : sl + 980 ≤ 7302250) (hl : lv_has ls 4 [(0, .ref b), (1, .ref (eq Ec 0)), (2, .ref (eq Em 500)), (3, .int x3)]) (kk : ∀ (E2 : Ev) (H : Heap) (locs : List Loc), Ext Ec E2 L0 → G2 E2 Em c1 m1 A s H locs → W p l e room_1 s m args below meth c H locs (ca + 12) (sl + 980) Q (F0 m 1152 ls [])) : W p l e room_1 s m args below meth c H locs ca sl Q (F0 m 743 ls []) := by
  have hx := Xc.1.1
  have hb := Xc.1.2.1
  refine lv_aload_n hx hb dL_law_743 rfl (lv_at hl 1 rfl) ?_
  refine lv_aload_n hx hb dL_law_744 rfl (lv_at hl 0 rfl) ?_
  refine lv_iload_n hx hb dL_law_745 rfl (lv_at hl 3 rfl) ?_
  refine lv_iconst (v := (1 : Int32)) hx hb dL_law_746 (by decide) ?_
  refine lv_iadd hx hb dL_law_747 ?_
  refine sld hx hb hX hbl hbA G.2.2.2 (j := 1) ex rfl (by omega) hL dL_law_748 ?_
  refine W.widen (k := ca + 12) (n := sl + 980) (by omega) (by omega) ?_
  refine lcW (As := [.int (xs (i + 1))]) (rest := []) Xc G kc_L_94 (tX9_rate l Ec c0 _ hLc hLL (xs (i + 1)) hC) (rcv Xc G.c (hLc 0 rfl) (cO9 rfl) rfl) rfl rfl ⟨(Nat.le_of_ble_eq_true rfl), (Nat.le_of_ble_eq_true rfl)⟩ rfl hl.1 rfl (Nat.le_of_ble_eq_true rfl) dL_law_749 ⟨hca, hsl⟩ (fun H locs G => ?_)
  refine lv_aload_n hx hb dL_law_752 rfl (lv_at hl 2 rfl) ?_
  refine lv_aload_n hx hb dL_law_753 rfl (lv_at hl 0 rfl) ?_
  refine lv_iload_n hx hb dL_law_754 rfl (lv_at hl 3 rfl) ?_
  refine lv_iconst (v := (1 : Int32)) hx hb dL_law_755 (by decide) ?_
  refine lv_iadd hx hb dL_law_756 ?_
  refine sld hx hb hX hbl hbA G.2.2.2 (j := 1) ex rfl (by omega) hL dL_law_757 ?_
  refine lmW (As := [.int (xs (i + 1))]) (rest := [.int r]) Xm G kc_L_97 (tX10_rate l Em m0 _ hLm (xs (i + 1)) hM) (rcv Xm G.m (hLm 500 rfl) (cO10 rfl) rfl) rfl rfl ⟨(Nat.le_of_ble_eq_true rfl), (Nat.le_of_ble_eq_true rfl)⟩ rfl hl.1 rfl (Nat.le_of_ble_eq_true rfl) dL_law_758 ⟨hca, hsl⟩ (fun H locs G => ?_)
  refine lv_icmp_eq (tgt := 1152) hx hb dL_law_761 (by decide) (fun _ => ?_) (fun h9 => absurd rfl h9)
  exact kk Ec _ _ ⟨by rw [hLL]; rfl, fun _ _ => rfl, fun k hk => by rw [hLL]; exact hk⟩ G
set_option maxRecDepth 100000 in
theorem lw_case_20 {p : Program} {l : Launch} {e : Env} {s : State} {m : MethodId} {args : Array Value} {below : List Frame} {meth : Method} {c : Code} {H : Heap} {locs : List Loc} {Q : State → Prop} {ls : Array Slot} {Ec Em : Ev} {A : Nat → Prop} {b L i ca sl : Nat} {xs : Nat → Int32} {x3 : Int32} {c0 m0 : St} {L0 : List Nat} {r : Int32} {L1 : List Nat} {c1 m1 : St} (hL : L ≤ 3072) (hX : va_X b L xs s s.heap) (hbl : b < s.heap.size) (hbA : ¬ A b) (ex : x3 = nI i) (hi : i + 6 ≤ L) (Xc : CX p s m args c Ec R_law code 4 A) (Xm : CX p s m args c Em R_law code 4 A) (hN : KN s) (hLc : ∀ k, fxC k = true → k ∈ eL Ec) (hLm : ∀ k, fxM k = true → k ∈ eL Em) (hLL : L0 = eL Ec) (G : G2 Ec Em c0 m0 A s H locs) (hC : fX9_levy c0 (xs (i + 1)) (xs (i + 2)) = some r) (hM : fX10_levy m0 (xs (i + 1)) (xs (i + 2)) = some r) (hca : ca + 12 ≤ 600000) (hsl : sl + 980 ≤ 7302250) (hl : lv_has ls 4 [(0, .ref b), (1, .ref (eq Ec 0)), (2, .ref (eq Em 500)), (3, .int x3)]) (kk : ∀ (E2 : Ev) (H : Heap) (locs : List Loc), Ext Ec E2 L0 → G2 E2 Em c0 m0 A s H locs → W p l e room_1 s m args below meth c H locs (ca + 12) (sl + 980) Q (F0 m 1152 ls [])) : W p l e room_1 s m args below meth c H locs ca sl Q (F0 m 766 ls []) := by
  have hx := Xc.1.1
  have hb := Xc.1.2.1
  refine lv_aload_n hx hb dL_law_766 rfl (lv_at hl 1 rfl) ?_
  refine lv_aload_n hx hb dL_law_767 rfl (lv_at hl 0 rfl) ?_
  refine lv_iload_n hx hb dL_law_768 rfl (lv_at hl 3 rfl) ?_
  refine lv_iconst (v := (1 : Int32)) hx hb dL_law_769 (by decide) ?_
  refine lv_iadd hx hb dL_law_770 ?_
  refine sld hx hb hX hbl hbA G.2.2.2 (j := 1) ex rfl (by omega) hL dL_law_771 ?_
  refine lv_aload_n hx hb dL_law_772 rfl (lv_at hl 0 rfl) ?_
  refine lv_iload_n hx hb dL_law_773 rfl (lv_at hl 3 rfl) ?_
  refine lv_iconst (v := (2 : Int32)) hx hb dL_law_774 (by decide) ?_
  refine lv_iadd hx hb dL_law_775 ?_
  refine sld hx hb hX hbl hbA G.2.2.2 (j := 2) ex rfl (by omega) hL dL_law_776 ?_
  refine W.widen (k := ca + 12) (n := sl + 980) (by omega) (by omega) ?_
  refine cVRi (As := [.int (xs (i + 1)), .int (xs (i + 2))]) (rest := []) Xc G.c kc_L_98 (tX9_levy l Ec c0 _ hLc (xs (i + 1)) (xs (i + 2)) hC) (rcv Xc G.c (hLc 0 rfl) (cO9 rfl) rfl) rfl rfl ⟨(Nat.le_of_ble_eq_true rfl), (Nat.le_of_ble_eq_true rfl)⟩ rfl hl.1 rfl (Nat.le_of_ble_eq_true rfl) dL_law_777 ⟨hca, hsl⟩ ?_
  refine lv_aload_n hx hb dL_law_780 rfl (lv_at hl 2 rfl) ?_
  refine lv_aload_n hx hb dL_law_781 rfl (lv_at hl 0 rfl) ?_
  refine lv_iload_n hx hb dL_law_782 rfl (lv_at hl 3 rfl) ?_
  refine lv_iconst (v := (1 : Int32)) hx hb dL_law_783 (by decide) ?_
  refine lv_iadd hx hb dL_law_784 ?_
  refine sld hx hb hX hbl hbA G.2.2.2 (j := 1) ex rfl (by omega) hL dL_law_785 ?_
  refine lv_aload_n hx hb dL_law_786 rfl (lv_at hl 0 rfl) ?_
  refine lv_iload_n hx hb dL_law_787 rfl (lv_at hl 3 rfl) ?_
  refine lv_iconst (v := (2 : Int32)) hx hb dL_law_788 (by decide) ?_
  refine lv_iadd hx hb dL_law_789 ?_
  refine sld hx hb hX hbl hbA G.2.2.2 (j := 2) ex rfl (by omega) hL dL_law_790 ?_
  refine cVRi (As := [.int (xs (i + 1)), .int (xs (i + 2))]) (rest := [.int r]) Xm G.m kc_L_101 (tX10_levy l Em m0 _ hLm (xs (i + 1)) (xs (i + 2)) hM) (rcv Xm G.m (hLm 500 rfl) (cO10 rfl) rfl) rfl rfl ⟨(Nat.le_of_ble_eq_true rfl), (Nat.le_of_ble_eq_true rfl)⟩ rfl hl.1 rfl (Nat.le_of_ble_eq_true rfl) dL_law_791 ⟨hca, hsl⟩ ?_
  refine lv_icmp_eq (tgt := 1152) hx hb dL_law_794 (by decide) (fun _ => ?_) (fun h9 => absurd rfl h9)
  exact kk Ec _ _ ⟨by rw [hLL]; rfl, fun _ _ => rfl, fun k hk => by rw [hLL]; exact hk⟩ G
set_option maxRecDepth 100000 in
theorem lw_case_21 {p : Program} {l : Launch} {e : Env} {s : State} {m : MethodId} {args : Array Value} {below : List Frame} {meth : Method} {c : Code} {H : Heap} {locs : List Loc} {Q : State → Prop} {ls : Array Slot} {Ec Em : Ev} {A : Nat → Prop} {b L i ca sl : Nat} {xs : Nat → Int32} {x3 : Int32} {c0 m0 : St} {L0 : List Nat} {r : Int32} {L1 : List Nat} {c1 m1 : St} (hL : L ≤ 3072) (hX : va_X b L xs s s.heap) (hbl : b < s.heap.size) (hbA : ¬ A b) (ex : x3 = nI i) (hi : i + 6 ≤ L) (Xc : CX p s m args c Ec R_law code 4 A) (Xm : CX p s m args c Em R_law code 4 A) (hN : KN s) (hLc : ∀ k, fxC k = true → k ∈ eL Ec) (hLm : ∀ k, fxM k = true → k ∈ eL Em) (hLL : L0 = eL Ec) (G : G2 Ec Em c0 m0 A s H locs) (hC : fX9_district c0 (xs (i + 1)) (xs (i + 2)) = some r) (hM : fX10_district m0 (xs (i + 1)) (xs (i + 2)) = some r) (hca : ca + 12 ≤ 600000) (hsl : sl + 980 ≤ 7302250) (hl : lv_has ls 4 [(0, .ref b), (1, .ref (eq Ec 0)), (2, .ref (eq Em 500)), (3, .int x3)]) (kk : ∀ (E2 : Ev) (H : Heap) (locs : List Loc), Ext Ec E2 L0 → G2 E2 Em c0 m0 A s H locs → W p l e room_1 s m args below meth c H locs (ca + 12) (sl + 980) Q (F0 m 1152 ls [])) : W p l e room_1 s m args below meth c H locs ca sl Q (F0 m 799 ls []) := by
  have hx := Xc.1.1
  have hb := Xc.1.2.1
  refine lv_aload_n hx hb dL_law_799 rfl (lv_at hl 1 rfl) ?_
  refine lv_aload_n hx hb dL_law_800 rfl (lv_at hl 0 rfl) ?_
  refine lv_iload_n hx hb dL_law_801 rfl (lv_at hl 3 rfl) ?_
  refine lv_iconst (v := (1 : Int32)) hx hb dL_law_802 (by decide) ?_
  refine lv_iadd hx hb dL_law_803 ?_
  refine sld hx hb hX hbl hbA G.2.2.2 (j := 1) ex rfl (by omega) hL dL_law_804 ?_
  refine lv_aload_n hx hb dL_law_805 rfl (lv_at hl 0 rfl) ?_
  refine lv_iload_n hx hb dL_law_806 rfl (lv_at hl 3 rfl) ?_
  refine lv_iconst (v := (2 : Int32)) hx hb dL_law_807 (by decide) ?_
  refine lv_iadd hx hb dL_law_808 ?_
  refine sld hx hb hX hbl hbA G.2.2.2 (j := 2) ex rfl (by omega) hL dL_law_809 ?_
  refine W.widen (k := ca + 12) (n := sl + 980) (by omega) (by omega) ?_
  refine cVRi (As := [.int (xs (i + 1)), .int (xs (i + 2))]) (rest := []) Xc G.c kc_L_102 (tX9_district l Ec c0 _ hLc (xs (i + 1)) (xs (i + 2)) hC) (rcv Xc G.c (hLc 0 rfl) (cO9 rfl) rfl) rfl rfl ⟨(Nat.le_of_ble_eq_true rfl), (Nat.le_of_ble_eq_true rfl)⟩ rfl hl.1 rfl (Nat.le_of_ble_eq_true rfl) dL_law_810 ⟨hca, hsl⟩ ?_
  refine lv_aload_n hx hb dL_law_813 rfl (lv_at hl 2 rfl) ?_
  refine lv_aload_n hx hb dL_law_814 rfl (lv_at hl 0 rfl) ?_
  refine lv_iload_n hx hb dL_law_815 rfl (lv_at hl 3 rfl) ?_
  refine lv_iconst (v := (1 : Int32)) hx hb dL_law_816 (by decide) ?_
  refine lv_iadd hx hb dL_law_817 ?_
  refine sld hx hb hX hbl hbA G.2.2.2 (j := 1) ex rfl (by omega) hL dL_law_818 ?_
  refine lv_aload_n hx hb dL_law_819 rfl (lv_at hl 0 rfl) ?_
  refine lv_iload_n hx hb dL_law_820 rfl (lv_at hl 3 rfl) ?_
  refine lv_iconst (v := (2 : Int32)) hx hb dL_law_821 (by decide) ?_
  refine lv_iadd hx hb dL_law_822 ?_
  refine sld hx hb hX hbl hbA G.2.2.2 (j := 2) ex rfl (by omega) hL dL_law_823 ?_
  refine cVRi (As := [.int (xs (i + 1)), .int (xs (i + 2))]) (rest := [.int r]) Xm G.m kc_L_105 (tX10_district l Em m0 _ hLm (xs (i + 1)) (xs (i + 2)) hM) (rcv Xm G.m (hLm 500 rfl) (cO10 rfl) rfl) rfl rfl ⟨(Nat.le_of_ble_eq_true rfl), (Nat.le_of_ble_eq_true rfl)⟩ rfl hl.1 rfl (Nat.le_of_ble_eq_true rfl) dL_law_824 ⟨hca, hsl⟩ ?_
  refine lv_icmp_eq (tgt := 1152) hx hb dL_law_827 (by decide) (fun _ => ?_) (fun h9 => absurd rfl h9)
  exact kk Ec _ _ ⟨by rw [hLL]; rfl, fun _ _ => rfl, fun k hk => by rw [hLL]; exact hk⟩ G
set_option maxRecDepth 100000 in
theorem lw_case_22 {p : Program} {l : Launch} {e : Env} {s : State} {m : MethodId} {args : Array Value} {below : List Frame} {meth : Method} {c : Code} {H : Heap} {locs : List Loc} {Q : State → Prop} {ls : Array Slot} {Ec Em : Ev} {A : Nat → Prop} {b L i ca sl : Nat} {xs : Nat → Int32} {x3 : Int32} {c0 m0 : St} {L0 : List Nat} {r : Int32} {L1 : List Nat} {c1 m1 : St} (hL : L ≤ 3072) (hX : va_X b L xs s s.heap) (hbl : b < s.heap.size) (hbA : ¬ A b) (ex : x3 = nI i) (hi : i + 6 ≤ L) (Xc : CX p s m args c Ec R_law code 4 A) (Xm : CX p s m args c Em R_law code 4 A) (hN : KN s) (hLc : ∀ k, fxC k = true → k ∈ eL Ec) (hLm : ∀ k, fxM k = true → k ∈ eL Em) (hLL : L0 = eL Ec) (G : G2 Ec Em c0 m0 A s H locs) (hC : fX9_hats c0 (xs (i + 1)) (xs (i + 2)) = some r) (hM : fX10_hats m0 (xs (i + 1)) (xs (i + 2)) = some r) (hca : ca + 12 ≤ 600000) (hsl : sl + 980 ≤ 7302250) (hl : lv_has ls 4 [(0, .ref b), (1, .ref (eq Ec 0)), (2, .ref (eq Em 500)), (3, .int x3)]) (kk : ∀ (E2 : Ev) (H : Heap) (locs : List Loc), Ext Ec E2 L0 → G2 E2 Em c0 m0 A s H locs → W p l e room_1 s m args below meth c H locs (ca + 12) (sl + 980) Q (F0 m 1152 ls [])) : W p l e room_1 s m args below meth c H locs ca sl Q (F0 m 832 ls []) := by
  have hx := Xc.1.1
  have hb := Xc.1.2.1
  refine lv_aload_n hx hb dL_law_832 rfl (lv_at hl 1 rfl) ?_
  refine lv_aload_n hx hb dL_law_833 rfl (lv_at hl 0 rfl) ?_
  refine lv_iload_n hx hb dL_law_834 rfl (lv_at hl 3 rfl) ?_
  refine lv_iconst (v := (1 : Int32)) hx hb dL_law_835 (by decide) ?_
  refine lv_iadd hx hb dL_law_836 ?_
  refine sld hx hb hX hbl hbA G.2.2.2 (j := 1) ex rfl (by omega) hL dL_law_837 ?_
  refine lv_aload_n hx hb dL_law_838 rfl (lv_at hl 0 rfl) ?_
  refine lv_iload_n hx hb dL_law_839 rfl (lv_at hl 3 rfl) ?_
  refine lv_iconst (v := (2 : Int32)) hx hb dL_law_840 (by decide) ?_
  refine lv_iadd hx hb dL_law_841 ?_
  refine sld hx hb hX hbl hbA G.2.2.2 (j := 2) ex rfl (by omega) hL dL_law_842 ?_
  refine W.widen (k := ca + 12) (n := sl + 980) (by omega) (by omega) ?_
  refine cVRi (As := [.int (xs (i + 1)), .int (xs (i + 2))]) (rest := []) Xc G.c kc_L_106 (tX9_hats l Ec c0 _ hLc (xs (i + 1)) (xs (i + 2)) hC) (rcv Xc G.c (hLc 0 rfl) (cO9 rfl) rfl) rfl rfl ⟨(Nat.le_of_ble_eq_true rfl), (Nat.le_of_ble_eq_true rfl)⟩ rfl hl.1 rfl (Nat.le_of_ble_eq_true rfl) dL_law_843 ⟨hca, hsl⟩ ?_
  refine lv_aload_n hx hb dL_law_846 rfl (lv_at hl 2 rfl) ?_
  refine lv_aload_n hx hb dL_law_847 rfl (lv_at hl 0 rfl) ?_
  refine lv_iload_n hx hb dL_law_848 rfl (lv_at hl 3 rfl) ?_
  refine lv_iconst (v := (1 : Int32)) hx hb dL_law_849 (by decide) ?_
  refine lv_iadd hx hb dL_law_850 ?_
  refine sld hx hb hX hbl hbA G.2.2.2 (j := 1) ex rfl (by omega) hL dL_law_851 ?_
  refine lv_aload_n hx hb dL_law_852 rfl (lv_at hl 0 rfl) ?_
  refine lv_iload_n hx hb dL_law_853 rfl (lv_at hl 3 rfl) ?_
  refine lv_iconst (v := (2 : Int32)) hx hb dL_law_854 (by decide) ?_
  refine lv_iadd hx hb dL_law_855 ?_
  refine sld hx hb hX hbl hbA G.2.2.2 (j := 2) ex rfl (by omega) hL dL_law_856 ?_
  refine cVRi (As := [.int (xs (i + 1)), .int (xs (i + 2))]) (rest := [.int r]) Xm G.m kc_L_109 (tX10_hats l Em m0 _ hLm (xs (i + 1)) (xs (i + 2)) hM) (rcv Xm G.m (hLm 500 rfl) (cO10 rfl) rfl) rfl rfl ⟨(Nat.le_of_ble_eq_true rfl), (Nat.le_of_ble_eq_true rfl)⟩ rfl hl.1 rfl (Nat.le_of_ble_eq_true rfl) dL_law_857 ⟨hca, hsl⟩ ?_
  refine lv_icmp_eq (tgt := 1152) hx hb dL_law_860 (by decide) (fun _ => ?_) (fun h9 => absurd rfl h9)
  exact kk Ec _ _ ⟨by rw [hLL]; rfl, fun _ _ => rfl, fun k hk => by rw [hLL]; exact hk⟩ G
set_option maxRecDepth 100000 in
theorem lw_case_23 {p : Program} {l : Launch} {e : Env} {s : State} {m : MethodId} {args : Array Value} {below : List Frame} {meth : Method} {c : Code} {H : Heap} {locs : List Loc} {Q : State → Prop} {ls : Array Slot} {Ec Em : Ev} {A : Nat → Prop} {b L i ca sl : Nat} {xs : Nat → Int32} {x3 : Int32} {c0 m0 : St} {L0 : List Nat} {r : Int32} {L1 : List Nat} {c1 m1 : St} (hL : L ≤ 3072) (hX : va_X b L xs s s.heap) (hbl : b < s.heap.size) (hbA : ¬ A b) (ex : x3 = nI i) (hi : i + 6 ≤ L) (Xc : CX p s m args c Ec R_law code 4 A) (Xm : CX p s m args c Em R_law code 4 A) (hN : KN s) (hLc : ∀ k, fxC k = true → k ∈ eL Ec) (hLm : ∀ k, fxM k = true → k ∈ eL Em) (hLL : L0 = eL Ec) (G : G2 Ec Em c0 m0 A s H locs) (hC : fX9_loan L0 (xs (i + 1)) (xs (i + 2)) (xs (i + 3)) c0 = some (r, c1)) (hM : fX10_loan (xs (i + 1)) (xs (i + 2)) (xs (i + 3)) m0 = some (r, m1)) (hca : ca + 12 ≤ 600000) (hsl : sl + 980 ≤ 7302250) (hl : lv_has ls 4 [(0, .ref b), (1, .ref (eq Ec 0)), (2, .ref (eq Em 500)), (3, .int x3)]) (kk : ∀ (E2 : Ev) (H : Heap) (locs : List Loc), Ext Ec E2 L0 → G2 E2 Em c1 m1 A s H locs → W p l e room_1 s m args below meth c H locs (ca + 12) (sl + 980) Q (F0 m 1152 ls [])) : W p l e room_1 s m args below meth c H locs ca sl Q (F0 m 865 ls []) := by
  have hx := Xc.1.1
  have hb := Xc.1.2.1
  refine lv_aload_n hx hb dL_law_865 rfl (lv_at hl 1 rfl) ?_
  refine lv_aload_n hx hb dL_law_866 rfl (lv_at hl 0 rfl) ?_
  refine lv_iload_n hx hb dL_law_867 rfl (lv_at hl 3 rfl) ?_
  refine lv_iconst (v := (1 : Int32)) hx hb dL_law_868 (by decide) ?_
  refine lv_iadd hx hb dL_law_869 ?_
  refine sld hx hb hX hbl hbA G.2.2.2 (j := 1) ex rfl (by omega) hL dL_law_870 ?_
  refine lv_aload_n hx hb dL_law_871 rfl (lv_at hl 0 rfl) ?_
  refine lv_iload_n hx hb dL_law_872 rfl (lv_at hl 3 rfl) ?_
  refine lv_iconst (v := (2 : Int32)) hx hb dL_law_873 (by decide) ?_
  refine lv_iadd hx hb dL_law_874 ?_
  refine sld hx hb hX hbl hbA G.2.2.2 (j := 2) ex rfl (by omega) hL dL_law_875 ?_
  refine lv_aload_n hx hb dL_law_876 rfl (lv_at hl 0 rfl) ?_
  refine lv_iload_n hx hb dL_law_877 rfl (lv_at hl 3 rfl) ?_
  refine lv_iconst (v := (3 : Int32)) hx hb dL_law_878 (by decide) ?_
  refine lv_iadd hx hb dL_law_879 ?_
  refine sld hx hb hX hbl hbA G.2.2.2 (j := 3) ex rfl (by omega) hL dL_law_880 ?_
  refine W.widen (k := ca + 12) (n := sl + 980) (by omega) (by omega) ?_
  refine lcW (As := [.int (xs (i + 1)), .int (xs (i + 2)), .int (xs (i + 3))]) (rest := []) Xc G kc_L_110 (tX9_loan l Ec c0 _ hLc hLL (xs (i + 1)) (xs (i + 2)) (xs (i + 3)) hC) (rcv Xc G.c (hLc 0 rfl) (cO9 rfl) rfl) rfl rfl ⟨(Nat.le_of_ble_eq_true rfl), (Nat.le_of_ble_eq_true rfl)⟩ rfl hl.1 rfl (Nat.le_of_ble_eq_true rfl) dL_law_881 ⟨hca, hsl⟩ (fun H locs G => ?_)
  refine lv_aload_n hx hb dL_law_884 rfl (lv_at hl 2 rfl) ?_
  refine lv_aload_n hx hb dL_law_885 rfl (lv_at hl 0 rfl) ?_
  refine lv_iload_n hx hb dL_law_886 rfl (lv_at hl 3 rfl) ?_
  refine lv_iconst (v := (1 : Int32)) hx hb dL_law_887 (by decide) ?_
  refine lv_iadd hx hb dL_law_888 ?_
  refine sld hx hb hX hbl hbA G.2.2.2 (j := 1) ex rfl (by omega) hL dL_law_889 ?_
  refine lv_aload_n hx hb dL_law_890 rfl (lv_at hl 0 rfl) ?_
  refine lv_iload_n hx hb dL_law_891 rfl (lv_at hl 3 rfl) ?_
  refine lv_iconst (v := (2 : Int32)) hx hb dL_law_892 (by decide) ?_
  refine lv_iadd hx hb dL_law_893 ?_
  refine sld hx hb hX hbl hbA G.2.2.2 (j := 2) ex rfl (by omega) hL dL_law_894 ?_
  refine lv_aload_n hx hb dL_law_895 rfl (lv_at hl 0 rfl) ?_
  refine lv_iload_n hx hb dL_law_896 rfl (lv_at hl 3 rfl) ?_
  refine lv_iconst (v := (3 : Int32)) hx hb dL_law_897 (by decide) ?_
  refine lv_iadd hx hb dL_law_898 ?_
  refine sld hx hb hX hbl hbA G.2.2.2 (j := 3) ex rfl (by omega) hL dL_law_899 ?_
  refine lmW (As := [.int (xs (i + 1)), .int (xs (i + 2)), .int (xs (i + 3))]) (rest := [.int r]) Xm G kc_L_113 (tX10_loan l Em m0 _ hLm (xs (i + 1)) (xs (i + 2)) (xs (i + 3)) hM) (rcv Xm G.m (hLm 500 rfl) (cO10 rfl) rfl) rfl rfl ⟨(Nat.le_of_ble_eq_true rfl), (Nat.le_of_ble_eq_true rfl)⟩ rfl hl.1 rfl (Nat.le_of_ble_eq_true rfl) dL_law_900 ⟨hca, hsl⟩ (fun H locs G => ?_)
  refine lv_icmp_eq (tgt := 1152) hx hb dL_law_903 (by decide) (fun _ => ?_) (fun h9 => absurd rfl h9)
  exact kk Ec _ _ ⟨by rw [hLL]; rfl, fun _ _ => rfl, fun k hk => by rw [hLL]; exact hk⟩ G
set_option maxRecDepth 100000 in
theorem lw_case_24 {p : Program} {l : Launch} {e : Env} {s : State} {m : MethodId} {args : Array Value} {below : List Frame} {meth : Method} {c : Code} {H : Heap} {locs : List Loc} {Q : State → Prop} {ls : Array Slot} {Ec Em : Ev} {A : Nat → Prop} {b L i ca sl : Nat} {xs : Nat → Int32} {x3 : Int32} {c0 m0 : St} {L0 : List Nat} {r : Int32} {L1 : List Nat} {c1 m1 : St} (hL : L ≤ 3072) (hX : va_X b L xs s s.heap) (hbl : b < s.heap.size) (hbA : ¬ A b) (ex : x3 = nI i) (hi : i + 6 ≤ L) (Xc : CX p s m args c Ec R_law code 4 A) (Xm : CX p s m args c Em R_law code 4 A) (hN : KN s) (hLc : ∀ k, fxC k = true → k ∈ eL Ec) (hLm : ∀ k, fxM k = true → k ∈ eL Em) (hLL : L0 = eL Ec) (G : G2 Ec Em c0 m0 A s H locs) (hC : fX9_book (xs (i + 1)) (xs (i + 2)) (xs (i + 3)) c0 = some (r, c1)) (hM : fX10_book (xs (i + 1)) (xs (i + 2)) (xs (i + 3)) m0 = some (r, m1)) (hca : ca + 12 ≤ 600000) (hsl : sl + 980 ≤ 7302250) (hl : lv_has ls 4 [(0, .ref b), (1, .ref (eq Ec 0)), (2, .ref (eq Em 500)), (3, .int x3)]) (kk : ∀ (E2 : Ev) (H : Heap) (locs : List Loc), Ext Ec E2 L0 → G2 E2 Em c1 m1 A s H locs → W p l e room_1 s m args below meth c H locs (ca + 12) (sl + 980) Q (F0 m 1152 ls [])) : W p l e room_1 s m args below meth c H locs ca sl Q (F0 m 908 ls []) := by
  have hx := Xc.1.1
  have hb := Xc.1.2.1
  refine lv_aload_n hx hb dL_law_908 rfl (lv_at hl 1 rfl) ?_
  refine lv_aload_n hx hb dL_law_909 rfl (lv_at hl 0 rfl) ?_
  refine lv_iload_n hx hb dL_law_910 rfl (lv_at hl 3 rfl) ?_
  refine lv_iconst (v := (1 : Int32)) hx hb dL_law_911 (by decide) ?_
  refine lv_iadd hx hb dL_law_912 ?_
  refine sld hx hb hX hbl hbA G.2.2.2 (j := 1) ex rfl (by omega) hL dL_law_913 ?_
  refine lv_aload_n hx hb dL_law_914 rfl (lv_at hl 0 rfl) ?_
  refine lv_iload_n hx hb dL_law_915 rfl (lv_at hl 3 rfl) ?_
  refine lv_iconst (v := (2 : Int32)) hx hb dL_law_916 (by decide) ?_
  refine lv_iadd hx hb dL_law_917 ?_
  refine sld hx hb hX hbl hbA G.2.2.2 (j := 2) ex rfl (by omega) hL dL_law_918 ?_
  refine lv_aload_n hx hb dL_law_919 rfl (lv_at hl 0 rfl) ?_
  refine lv_iload_n hx hb dL_law_920 rfl (lv_at hl 3 rfl) ?_
  refine lv_iconst (v := (3 : Int32)) hx hb dL_law_921 (by decide) ?_
  refine lv_iadd hx hb dL_law_922 ?_
  refine sld hx hb hX hbl hbA G.2.2.2 (j := 3) ex rfl (by omega) hL dL_law_923 ?_
  refine W.widen (k := ca + 12) (n := sl + 980) (by omega) (by omega) ?_
  refine lcW (As := [.int (xs (i + 1)), .int (xs (i + 2)), .int (xs (i + 3))]) (rest := []) Xc G kc_L_114 (tX9_book l Ec c0 _ hLc (xs (i + 1)) (xs (i + 2)) (xs (i + 3)) hC) (rcv Xc G.c (hLc 0 rfl) (cO9 rfl) rfl) rfl rfl ⟨(Nat.le_of_ble_eq_true rfl), (Nat.le_of_ble_eq_true rfl)⟩ rfl hl.1 rfl (Nat.le_of_ble_eq_true rfl) dL_law_924 ⟨hca, hsl⟩ (fun H locs G => ?_)
  refine lv_aload_n hx hb dL_law_927 rfl (lv_at hl 2 rfl) ?_
  refine lv_aload_n hx hb dL_law_928 rfl (lv_at hl 0 rfl) ?_
  refine lv_iload_n hx hb dL_law_929 rfl (lv_at hl 3 rfl) ?_
  refine lv_iconst (v := (1 : Int32)) hx hb dL_law_930 (by decide) ?_
  refine lv_iadd hx hb dL_law_931 ?_
  refine sld hx hb hX hbl hbA G.2.2.2 (j := 1) ex rfl (by omega) hL dL_law_932 ?_
  refine lv_aload_n hx hb dL_law_933 rfl (lv_at hl 0 rfl) ?_
  refine lv_iload_n hx hb dL_law_934 rfl (lv_at hl 3 rfl) ?_
  refine lv_iconst (v := (2 : Int32)) hx hb dL_law_935 (by decide) ?_
  refine lv_iadd hx hb dL_law_936 ?_
  refine sld hx hb hX hbl hbA G.2.2.2 (j := 2) ex rfl (by omega) hL dL_law_937 ?_
  refine lv_aload_n hx hb dL_law_938 rfl (lv_at hl 0 rfl) ?_
  refine lv_iload_n hx hb dL_law_939 rfl (lv_at hl 3 rfl) ?_
  refine lv_iconst (v := (3 : Int32)) hx hb dL_law_940 (by decide) ?_
  refine lv_iadd hx hb dL_law_941 ?_
  refine sld hx hb hX hbl hbA G.2.2.2 (j := 3) ex rfl (by omega) hL dL_law_942 ?_
  refine lmW (As := [.int (xs (i + 1)), .int (xs (i + 2)), .int (xs (i + 3))]) (rest := [.int r]) Xm G kc_L_117 (tX10_book l Em m0 _ hLm (xs (i + 1)) (xs (i + 2)) (xs (i + 3)) hM) (rcv Xm G.m (hLm 500 rfl) (cO10 rfl) rfl) rfl rfl ⟨(Nat.le_of_ble_eq_true rfl), (Nat.le_of_ble_eq_true rfl)⟩ rfl hl.1 rfl (Nat.le_of_ble_eq_true rfl) dL_law_943 ⟨hca, hsl⟩ (fun H locs G => ?_)
  refine lv_icmp_eq (tgt := 1152) hx hb dL_law_946 (by decide) (fun _ => ?_) (fun h9 => absurd rfl h9)
  exact kk Ec _ _ ⟨by rw [hLL]; rfl, fun _ _ => rfl, fun k hk => by rw [hLL]; exact hk⟩ G
set_option maxRecDepth 100000 in
theorem lw_case_25 {p : Program} {l : Launch} {e : Env} {s : State} {m : MethodId} {args : Array Value} {below : List Frame} {meth : Method} {c : Code} {H : Heap} {locs : List Loc} {Q : State → Prop} {ls : Array Slot} {Ec Em : Ev} {A : Nat → Prop} {b L i ca sl : Nat} {xs : Nat → Int32} {x3 : Int32} {c0 m0 : St} {L0 : List Nat} {r : Int32} {L1 : List Nat} {c1 m1 : St} (hL : L ≤ 3072) (hX : va_X b L xs s s.heap) (hbl : b < s.heap.size) (hbA : ¬ A b) (ex : x3 = nI i) (hi : i + 6 ≤ L) (Xc : CX p s m args c Ec R_law code 4 A) (Xm : CX p s m args c Em R_law code 4 A) (hN : KN s) (hLc : ∀ k, fxC k = true → k ∈ eL Ec) (hLm : ∀ k, fxM k = true → k ∈ eL Em) (hLL : L0 = eL Ec) (G : G2 Ec Em c0 m0 A s H locs) (hC : fX9_ruled L0 (xs (i + 1)) c0 = some (r, c1)) (hM : fX10_ruled (xs (i + 1)) m0 = some (r, m1)) (hca : ca + 12 ≤ 600000) (hsl : sl + 980 ≤ 7302250) (hl : lv_has ls 4 [(0, .ref b), (1, .ref (eq Ec 0)), (2, .ref (eq Em 500)), (3, .int x3)]) (kk : ∀ (E2 : Ev) (H : Heap) (locs : List Loc), Ext Ec E2 L0 → G2 E2 Em c1 m1 A s H locs → W p l e room_1 s m args below meth c H locs (ca + 12) (sl + 980) Q (F0 m 1152 ls [])) : W p l e room_1 s m args below meth c H locs ca sl Q (F0 m 951 ls []) := by
  have hx := Xc.1.1
  have hb := Xc.1.2.1
  refine lv_aload_n hx hb dL_law_951 rfl (lv_at hl 1 rfl) ?_
  refine lv_aload_n hx hb dL_law_952 rfl (lv_at hl 0 rfl) ?_
  refine lv_iload_n hx hb dL_law_953 rfl (lv_at hl 3 rfl) ?_
  refine lv_iconst (v := (1 : Int32)) hx hb dL_law_954 (by decide) ?_
  refine lv_iadd hx hb dL_law_955 ?_
  refine sld hx hb hX hbl hbA G.2.2.2 (j := 1) ex rfl (by omega) hL dL_law_956 ?_
  refine W.widen (k := ca + 12) (n := sl + 980) (by omega) (by omega) ?_
  refine lcW (As := [.int (xs (i + 1))]) (rest := []) Xc G kc_L_118 (tX9_ruled l Ec c0 _ hLc hLL (xs (i + 1)) hC) (rcv Xc G.c (hLc 0 rfl) (cO9 rfl) rfl) rfl rfl ⟨(Nat.le_of_ble_eq_true rfl), (Nat.le_of_ble_eq_true rfl)⟩ rfl hl.1 rfl (Nat.le_of_ble_eq_true rfl) dL_law_957 ⟨hca, hsl⟩ (fun H locs G => ?_)
  refine lv_aload_n hx hb dL_law_960 rfl (lv_at hl 2 rfl) ?_
  refine lv_aload_n hx hb dL_law_961 rfl (lv_at hl 0 rfl) ?_
  refine lv_iload_n hx hb dL_law_962 rfl (lv_at hl 3 rfl) ?_
  refine lv_iconst (v := (1 : Int32)) hx hb dL_law_963 (by decide) ?_
  refine lv_iadd hx hb dL_law_964 ?_
  refine sld hx hb hX hbl hbA G.2.2.2 (j := 1) ex rfl (by omega) hL dL_law_965 ?_
  refine lmW (As := [.int (xs (i + 1))]) (rest := [.int r]) Xm G kc_L_121 (tX10_ruled l Em m0 _ hLm (xs (i + 1)) hM) (rcv Xm G.m (hLm 500 rfl) (cO10 rfl) rfl) rfl rfl ⟨(Nat.le_of_ble_eq_true rfl), (Nat.le_of_ble_eq_true rfl)⟩ rfl hl.1 rfl (Nat.le_of_ble_eq_true rfl) dL_law_966 ⟨hca, hsl⟩ (fun H locs G => ?_)
  refine lv_icmp_eq (tgt := 1152) hx hb dL_law_969 (by decide) (fun _ => ?_) (fun h9 => absurd rfl h9)
  exact kk Ec _ _ ⟨by rw [hLL]; rfl, fun _ _ => rfl, fun k hk => by rw [hLL]; exact hk⟩ G
set_option maxRecDepth 100000 in
theorem lw_case_26 {p : Program} {l : Launch} {e : Env} {s : State} {m : MethodId} {args : Array Value} {below : List Frame} {meth : Method} {c : Code} {H : Heap} {locs : List Loc} {Q : State → Prop} {ls : Array Slot} {Ec Em : Ev} {A : Nat → Prop} {b L i ca sl : Nat} {xs : Nat → Int32} {x3 : Int32} {c0 m0 : St} {L0 : List Nat} {r : Int32} {L1 : List Nat} {c1 m1 : St} (hL : L ≤ 3072) (hX : va_X b L xs s s.heap) (hbl : b < s.heap.size) (hbA : ¬ A b) (ex : x3 = nI i) (hi : i + 6 ≤ L) (Xc : CX p s m args c Ec R_law code 4 A) (Xm : CX p s m args c Em R_law code 4 A) (hN : KN s) (hLc : ∀ k, fxC k = true → k ∈ eL Ec) (hLm : ∀ k, fxM k = true → k ∈ eL Em) (hLL : L0 = eL Ec) (G : G2 Ec Em c0 m0 A s H locs) (hC : fX9_look L0 (xs (i + 1)) (xs (i + 2)) c0 = some (r, c1)) (hM : fX10_look (xs (i + 1)) (xs (i + 2)) m0 = some (r, m1)) (hca : ca + 12 ≤ 600000) (hsl : sl + 980 ≤ 7302250) (hl : lv_has ls 4 [(0, .ref b), (1, .ref (eq Ec 0)), (2, .ref (eq Em 500)), (3, .int x3)]) (kk : ∀ (E2 : Ev) (H : Heap) (locs : List Loc), Ext Ec E2 L0 → G2 E2 Em c1 m1 A s H locs → W p l e room_1 s m args below meth c H locs (ca + 12) (sl + 980) Q (F0 m 1152 ls [])) : W p l e room_1 s m args below meth c H locs ca sl Q (F0 m 974 ls []) := by
  have hx := Xc.1.1
  have hb := Xc.1.2.1
  refine lv_aload_n hx hb dL_law_974 rfl (lv_at hl 1 rfl) ?_
  refine lv_aload_n hx hb dL_law_975 rfl (lv_at hl 0 rfl) ?_
  refine lv_iload_n hx hb dL_law_976 rfl (lv_at hl 3 rfl) ?_
  refine lv_iconst (v := (1 : Int32)) hx hb dL_law_977 (by decide) ?_
  refine lv_iadd hx hb dL_law_978 ?_
  refine sld hx hb hX hbl hbA G.2.2.2 (j := 1) ex rfl (by omega) hL dL_law_979 ?_
  refine lv_aload_n hx hb dL_law_980 rfl (lv_at hl 0 rfl) ?_
  refine lv_iload_n hx hb dL_law_981 rfl (lv_at hl 3 rfl) ?_
  refine lv_iconst (v := (2 : Int32)) hx hb dL_law_982 (by decide) ?_
  refine lv_iadd hx hb dL_law_983 ?_
  refine sld hx hb hX hbl hbA G.2.2.2 (j := 2) ex rfl (by omega) hL dL_law_984 ?_
  refine W.widen (k := ca + 12) (n := sl + 980) (by omega) (by omega) ?_
  refine lcW (As := [.int (xs (i + 1)), .int (xs (i + 2))]) (rest := []) Xc G kc_L_122 (tX9_look l Ec c0 _ hLc hLL (xs (i + 1)) (xs (i + 2)) hC) (rcv Xc G.c (hLc 0 rfl) (cO9 rfl) rfl) rfl rfl ⟨(Nat.le_of_ble_eq_true rfl), (Nat.le_of_ble_eq_true rfl)⟩ rfl hl.1 rfl (Nat.le_of_ble_eq_true rfl) dL_law_985 ⟨hca, hsl⟩ (fun H locs G => ?_)
  refine lv_aload_n hx hb dL_law_988 rfl (lv_at hl 2 rfl) ?_
  refine lv_aload_n hx hb dL_law_989 rfl (lv_at hl 0 rfl) ?_
  refine lv_iload_n hx hb dL_law_990 rfl (lv_at hl 3 rfl) ?_
  refine lv_iconst (v := (1 : Int32)) hx hb dL_law_991 (by decide) ?_
  refine lv_iadd hx hb dL_law_992 ?_
  refine sld hx hb hX hbl hbA G.2.2.2 (j := 1) ex rfl (by omega) hL dL_law_993 ?_
  refine lv_aload_n hx hb dL_law_994 rfl (lv_at hl 0 rfl) ?_
  refine lv_iload_n hx hb dL_law_995 rfl (lv_at hl 3 rfl) ?_
  refine lv_iconst (v := (2 : Int32)) hx hb dL_law_996 (by decide) ?_
  refine lv_iadd hx hb dL_law_997 ?_
  refine sld hx hb hX hbl hbA G.2.2.2 (j := 2) ex rfl (by omega) hL dL_law_998 ?_
  refine lmW (As := [.int (xs (i + 1)), .int (xs (i + 2))]) (rest := [.int r]) Xm G kc_L_125 (tX10_look l Em m0 _ hLm (xs (i + 1)) (xs (i + 2)) hM) (rcv Xm G.m (hLm 500 rfl) (cO10 rfl) rfl) rfl rfl ⟨(Nat.le_of_ble_eq_true rfl), (Nat.le_of_ble_eq_true rfl)⟩ rfl hl.1 rfl (Nat.le_of_ble_eq_true rfl) dL_law_999 ⟨hca, hsl⟩ (fun H locs G => ?_)
  refine lv_icmp_eq (tgt := 1152) hx hb dL_law_1002 (by decide) (fun _ => ?_) (fun h9 => absurd rfl h9)
  exact kk Ec _ _ ⟨by rw [hLL]; rfl, fun _ _ => rfl, fun k hk => by rw [hLL]; exact hk⟩ G
set_option maxRecDepth 100000 in
theorem lw_case_27 {p : Program} {l : Launch} {e : Env} {s : State} {m : MethodId} {args : Array Value} {below : List Frame} {meth : Method} {c : Code} {H : Heap} {locs : List Loc} {Q : State → Prop} {ls : Array Slot} {Ec Em : Ev} {A : Nat → Prop} {b L i ca sl : Nat} {xs : Nat → Int32} {x3 : Int32} {c0 m0 : St} {L0 : List Nat} {r : Int32} {L1 : List Nat} {c1 m1 : St} (hL : L ≤ 3072) (hX : va_X b L xs s s.heap) (hbl : b < s.heap.size) (hbA : ¬ A b) (ex : x3 = nI i) (hi : i + 6 ≤ L) (Xc : CX p s m args c Ec R_law code 4 A) (Xm : CX p s m args c Em R_law code 4 A) (hN : KN s) (hLc : ∀ k, fxC k = true → k ∈ eL Ec) (hLm : ∀ k, fxM k = true → k ∈ eL Em) (hLL : L0 = eL Ec) (G : G2 Ec Em c0 m0 A s H locs) (hC : fX9_seed (xs (i + 1)) c0 = some (r, c1)) (hM : fX10_seed (xs (i + 1)) m0 = some (r, m1)) (hca : ca + 12 ≤ 600000) (hsl : sl + 980 ≤ 7302250) (hl : lv_has ls 4 [(0, .ref b), (1, .ref (eq Ec 0)), (2, .ref (eq Em 500)), (3, .int x3)]) (kk : ∀ (E2 : Ev) (H : Heap) (locs : List Loc), Ext Ec E2 L0 → G2 E2 Em c1 m1 A s H locs → W p l e room_1 s m args below meth c H locs (ca + 12) (sl + 980) Q (F0 m 1152 ls [])) : W p l e room_1 s m args below meth c H locs ca sl Q (F0 m 1007 ls []) := by
  have hx := Xc.1.1
  have hb := Xc.1.2.1
  refine lv_aload_n hx hb dL_law_1007 rfl (lv_at hl 1 rfl) ?_
  refine lv_aload_n hx hb dL_law_1008 rfl (lv_at hl 0 rfl) ?_
  refine lv_iload_n hx hb dL_law_1009 rfl (lv_at hl 3 rfl) ?_
  refine lv_iconst (v := (1 : Int32)) hx hb dL_law_1010 (by decide) ?_
  refine lv_iadd hx hb dL_law_1011 ?_
  refine sld hx hb hX hbl hbA G.2.2.2 (j := 1) ex rfl (by omega) hL dL_law_1012 ?_
  refine W.widen (k := ca + 12) (n := sl + 980) (by omega) (by omega) ?_
  refine lcW (As := [.int (xs (i + 1))]) (rest := []) Xc G kc_L_126 (tX9_seed l Ec c0 _ hLc (xs (i + 1)) hC) (rcv Xc G.c (hLc 0 rfl) (cO9 rfl) rfl) rfl rfl ⟨(Nat.le_of_ble_eq_true rfl), (Nat.le_of_ble_eq_true rfl)⟩ rfl hl.1 rfl (Nat.le_of_ble_eq_true rfl) dL_law_1013 ⟨hca, hsl⟩ (fun H locs G => ?_)
  refine lv_aload_n hx hb dL_law_1016 rfl (lv_at hl 2 rfl) ?_
  refine lv_aload_n hx hb dL_law_1017 rfl (lv_at hl 0 rfl) ?_
  refine lv_iload_n hx hb dL_law_1018 rfl (lv_at hl 3 rfl) ?_
  refine lv_iconst (v := (1 : Int32)) hx hb dL_law_1019 (by decide) ?_
  refine lv_iadd hx hb dL_law_1020 ?_
  refine sld hx hb hX hbl hbA G.2.2.2 (j := 1) ex rfl (by omega) hL dL_law_1021 ?_
  refine lmW (As := [.int (xs (i + 1))]) (rest := [.int r]) Xm G kc_L_129 (tX10_seed l Em m0 _ hLm (xs (i + 1)) hM) (rcv Xm G.m (hLm 500 rfl) (cO10 rfl) rfl) rfl rfl ⟨(Nat.le_of_ble_eq_true rfl), (Nat.le_of_ble_eq_true rfl)⟩ rfl hl.1 rfl (Nat.le_of_ble_eq_true rfl) dL_law_1022 ⟨hca, hsl⟩ (fun H locs G => ?_)
  refine lv_icmp_eq (tgt := 1152) hx hb dL_law_1025 (by decide) (fun _ => ?_) (fun h9 => absurd rfl h9)
  exact kk Ec _ _ ⟨by rw [hLL]; rfl, fun _ _ => rfl, fun k hk => by rw [hLL]; exact hk⟩ G
set_option maxRecDepth 100000 in
theorem lw_case_28 {p : Program} {l : Launch} {e : Env} {s : State} {m : MethodId} {args : Array Value} {below : List Frame} {meth : Method} {c : Code} {H : Heap} {locs : List Loc} {Q : State → Prop} {ls : Array Slot} {Ec Em : Ev} {A : Nat → Prop} {b L i ca sl : Nat} {xs : Nat → Int32} {x3 : Int32} {c0 m0 : St} {L0 : List Nat} {r : Int32} {L1 : List Nat} {c1 m1 : St} (hL : L ≤ 3072) (hX : va_X b L xs s s.heap) (hbl : b < s.heap.size) (hbA : ¬ A b) (ex : x3 = nI i) (hi : i + 6 ≤ L) (Xc : CX p s m args c Ec R_law code 4 A) (Xm : CX p s m args c Em R_law code 4 A) (hN : KN s) (hLc : ∀ k, fxC k = true → k ∈ eL Ec) (hLm : ∀ k, fxM k = true → k ∈ eL Em) (hLL : L0 = eL Ec) (G : G2 Ec Em c0 m0 A s H locs) (hC : fX9_winters L0 (xs (i + 1)) (xs (i + 2)) (xs (i + 3)) (xs (i + 4)) c0 = some (r, c1)) (hM : fX10_winters (xs (i + 1)) (xs (i + 2)) (xs (i + 3)) (xs (i + 4)) m0 = some (r, m1)) (hca : ca + 12 ≤ 600000) (hsl : sl + 980 ≤ 7302250) (hl : lv_has ls 4 [(0, .ref b), (1, .ref (eq Ec 0)), (2, .ref (eq Em 500)), (3, .int x3)]) (kk : ∀ (E2 : Ev) (H : Heap) (locs : List Loc), Ext Ec E2 L0 → G2 E2 Em c1 m1 A s H locs → W p l e room_1 s m args below meth c H locs (ca + 12) (sl + 980) Q (F0 m 1152 ls [])) : W p l e room_1 s m args below meth c H locs ca sl Q (F0 m 1030 ls []) := by
  have hx := Xc.1.1
  have hb := Xc.1.2.1
  refine lv_aload_n hx hb dL_law_1030 rfl (lv_at hl 1 rfl) ?_
  refine lv_aload_n hx hb dL_law_1031 rfl (lv_at hl 0 rfl) ?_
  refine lv_iload_n hx hb dL_law_1032 rfl (lv_at hl 3 rfl) ?_
  refine lv_iconst (v := (1 : Int32)) hx hb dL_law_1033 (by decide) ?_
  refine lv_iadd hx hb dL_law_1034 ?_
  refine sld hx hb hX hbl hbA G.2.2.2 (j := 1) ex rfl (by omega) hL dL_law_1035 ?_
  refine lv_aload_n hx hb dL_law_1036 rfl (lv_at hl 0 rfl) ?_
  refine lv_iload_n hx hb dL_law_1037 rfl (lv_at hl 3 rfl) ?_
  refine lv_iconst (v := (2 : Int32)) hx hb dL_law_1038 (by decide) ?_
  refine lv_iadd hx hb dL_law_1039 ?_
  refine sld hx hb hX hbl hbA G.2.2.2 (j := 2) ex rfl (by omega) hL dL_law_1040 ?_
  refine lv_aload_n hx hb dL_law_1041 rfl (lv_at hl 0 rfl) ?_
  refine lv_iload_n hx hb dL_law_1042 rfl (lv_at hl 3 rfl) ?_
  refine lv_iconst (v := (3 : Int32)) hx hb dL_law_1043 (by decide) ?_
  refine lv_iadd hx hb dL_law_1044 ?_
  refine sld hx hb hX hbl hbA G.2.2.2 (j := 3) ex rfl (by omega) hL dL_law_1045 ?_
  refine lv_aload_n hx hb dL_law_1046 rfl (lv_at hl 0 rfl) ?_
  refine lv_iload_n hx hb dL_law_1047 rfl (lv_at hl 3 rfl) ?_
  refine lv_iconst (v := (4 : Int32)) hx hb dL_law_1048 (by decide) ?_
  refine lv_iadd hx hb dL_law_1049 ?_
  refine sld hx hb hX hbl hbA G.2.2.2 (j := 4) ex rfl (by omega) hL dL_law_1050 ?_
  refine W.widen (k := ca + 12) (n := sl + 980) (by omega) (by omega) ?_
  refine lcW (As := [.int (xs (i + 1)), .int (xs (i + 2)), .int (xs (i + 3)), .int (xs (i + 4))]) (rest := []) Xc G kc_L_130 (tX9_winters l Ec c0 _ hLc hLL (xs (i + 1)) (xs (i + 2)) (xs (i + 3)) (xs (i + 4)) hC) (rcv Xc G.c (hLc 0 rfl) (cO9 rfl) rfl) rfl rfl ⟨(Nat.le_of_ble_eq_true rfl), (Nat.le_of_ble_eq_true rfl)⟩ rfl hl.1 rfl (Nat.le_of_ble_eq_true rfl) dL_law_1051 ⟨hca, hsl⟩ (fun H locs G => ?_)
  refine lv_aload_n hx hb dL_law_1054 rfl (lv_at hl 2 rfl) ?_
  refine lv_aload_n hx hb dL_law_1055 rfl (lv_at hl 0 rfl) ?_
  refine lv_iload_n hx hb dL_law_1056 rfl (lv_at hl 3 rfl) ?_
  refine lv_iconst (v := (1 : Int32)) hx hb dL_law_1057 (by decide) ?_
  refine lv_iadd hx hb dL_law_1058 ?_
  refine sld hx hb hX hbl hbA G.2.2.2 (j := 1) ex rfl (by omega) hL dL_law_1059 ?_
  refine lv_aload_n hx hb dL_law_1060 rfl (lv_at hl 0 rfl) ?_
  refine lv_iload_n hx hb dL_law_1061 rfl (lv_at hl 3 rfl) ?_
  refine lv_iconst (v := (2 : Int32)) hx hb dL_law_1062 (by decide) ?_
  refine lv_iadd hx hb dL_law_1063 ?_
  refine sld hx hb hX hbl hbA G.2.2.2 (j := 2) ex rfl (by omega) hL dL_law_1064 ?_
  refine lv_aload_n hx hb dL_law_1065 rfl (lv_at hl 0 rfl) ?_
  refine lv_iload_n hx hb dL_law_1066 rfl (lv_at hl 3 rfl) ?_
  refine lv_iconst (v := (3 : Int32)) hx hb dL_law_1067 (by decide) ?_
  refine lv_iadd hx hb dL_law_1068 ?_
  refine sld hx hb hX hbl hbA G.2.2.2 (j := 3) ex rfl (by omega) hL dL_law_1069 ?_
  refine lv_aload_n hx hb dL_law_1070 rfl (lv_at hl 0 rfl) ?_
  refine lv_iload_n hx hb dL_law_1071 rfl (lv_at hl 3 rfl) ?_
  refine lv_iconst (v := (4 : Int32)) hx hb dL_law_1072 (by decide) ?_
  refine lv_iadd hx hb dL_law_1073 ?_
  refine sld hx hb hX hbl hbA G.2.2.2 (j := 4) ex rfl (by omega) hL dL_law_1074 ?_
  refine lmW (As := [.int (xs (i + 1)), .int (xs (i + 2)), .int (xs (i + 3)), .int (xs (i + 4))]) (rest := [.int r]) Xm G kc_L_134 (tX10_winters l Em m0 _ hLm (xs (i + 1)) (xs (i + 2)) (xs (i + 3)) (xs (i + 4)) hM) (rcv Xm G.m (hLm 500 rfl) (cO10 rfl) rfl) rfl rfl ⟨(Nat.le_of_ble_eq_true rfl), (Nat.le_of_ble_eq_true rfl)⟩ rfl hl.1 rfl (Nat.le_of_ble_eq_true rfl) dL_law_1075 ⟨hca, hsl⟩ (fun H locs G => ?_)
  refine lv_icmp_eq (tgt := 1152) hx hb dL_law_1078 (by decide) (fun _ => ?_) (fun h9 => absurd rfl h9)
  exact kk Ec _ _ ⟨by rw [hLL]; rfl, fun _ _ => rfl, fun k hk => by rw [hLL]; exact hk⟩ G
set_option maxRecDepth 100000 in
theorem lw_case_29 {p : Program} {l : Launch} {e : Env} {s : State} {m : MethodId} {args : Array Value} {below : List Frame} {meth : Method} {c : Code} {H : Heap} {locs : List Loc} {Q : State → Prop} {ls : Array Slot} {Ec Em : Ev} {A : Nat → Prop} {b L i ca sl : Nat} {xs : Nat → Int32} {x3 : Int32} {c0 m0 : St} {L0 : List Nat} {r : Int32} {L1 : List Nat} {c1 m1 : St} (hL : L ≤ 3072) (hX : va_X b L xs s s.heap) (hbl : b < s.heap.size) (hbA : ¬ A b) (ex : x3 = nI i) (hi : i + 6 ≤ L) (Xc : CX p s m args c Ec R_law code 4 A) (Xm : CX p s m args c Em R_law code 4 A) (hN : KN s) (hLc : ∀ k, fxC k = true → k ∈ eL Ec) (hLm : ∀ k, fxM k = true → k ∈ eL Em) (hLL : L0 = eL Ec) (G : G2 Ec Em c0 m0 A s H locs) (hC : fX9_count c0 (xs (i + 1)) = some r) (hM : fX10_count m0 (xs (i + 1)) = some r) (hca : ca + 12 ≤ 600000) (hsl : sl + 980 ≤ 7302250) (hl : lv_has ls 4 [(0, .ref b), (1, .ref (eq Ec 0)), (2, .ref (eq Em 500)), (3, .int x3)]) (kk : ∀ (E2 : Ev) (H : Heap) (locs : List Loc), Ext Ec E2 L0 → G2 E2 Em c0 m0 A s H locs → W p l e room_1 s m args below meth c H locs (ca + 12) (sl + 980) Q (F0 m 1152 ls [])) : W p l e room_1 s m args below meth c H locs ca sl Q (F0 m 1083 ls []) := by
  have hx := Xc.1.1
  have hb := Xc.1.2.1
  refine lv_aload_n hx hb dL_law_1083 rfl (lv_at hl 1 rfl) ?_
  refine lv_aload_n hx hb dL_law_1084 rfl (lv_at hl 0 rfl) ?_
  refine lv_iload_n hx hb dL_law_1085 rfl (lv_at hl 3 rfl) ?_
  refine lv_iconst (v := (1 : Int32)) hx hb dL_law_1086 (by decide) ?_
  refine lv_iadd hx hb dL_law_1087 ?_
  refine sld hx hb hX hbl hbA G.2.2.2 (j := 1) ex rfl (by omega) hL dL_law_1088 ?_
  refine W.widen (k := ca + 12) (n := sl + 980) (by omega) (by omega) ?_
  refine cVRi (As := [.int (xs (i + 1))]) (rest := []) Xc G.c kc_L_135 (tX9_count l Ec c0 _ hLc (xs (i + 1)) hC) (rcv Xc G.c (hLc 0 rfl) (cO9 rfl) rfl) rfl rfl ⟨(Nat.le_of_ble_eq_true rfl), (Nat.le_of_ble_eq_true rfl)⟩ rfl hl.1 rfl (Nat.le_of_ble_eq_true rfl) dL_law_1089 ⟨hca, hsl⟩ ?_
  refine lv_aload_n hx hb dL_law_1092 rfl (lv_at hl 2 rfl) ?_
  refine lv_aload_n hx hb dL_law_1093 rfl (lv_at hl 0 rfl) ?_
  refine lv_iload_n hx hb dL_law_1094 rfl (lv_at hl 3 rfl) ?_
  refine lv_iconst (v := (1 : Int32)) hx hb dL_law_1095 (by decide) ?_
  refine lv_iadd hx hb dL_law_1096 ?_
  refine sld hx hb hX hbl hbA G.2.2.2 (j := 1) ex rfl (by omega) hL dL_law_1097 ?_
  refine cVRi (As := [.int (xs (i + 1))]) (rest := [.int r]) Xm G.m kc_L_138 (tX10_count l Em m0 _ hLm (xs (i + 1)) hM) (rcv Xm G.m (hLm 500 rfl) (cO10 rfl) rfl) rfl rfl ⟨(Nat.le_of_ble_eq_true rfl), (Nat.le_of_ble_eq_true rfl)⟩ rfl hl.1 rfl (Nat.le_of_ble_eq_true rfl) dL_law_1098 ⟨hca, hsl⟩ ?_
  refine lv_icmp_eq (tgt := 1152) hx hb dL_law_1101 (by decide) (fun _ => ?_) (fun h9 => absurd rfl h9)
  exact kk Ec _ _ ⟨by rw [hLL]; rfl, fun _ _ => rfl, fun k hk => by rw [hLL]; exact hk⟩ G
set_option maxRecDepth 100000 in
theorem lw_case_30 {p : Program} {l : Launch} {e : Env} {s : State} {m : MethodId} {args : Array Value} {below : List Frame} {meth : Method} {c : Code} {H : Heap} {locs : List Loc} {Q : State → Prop} {ls : Array Slot} {Ec Em : Ev} {A : Nat → Prop} {b L i ca sl : Nat} {xs : Nat → Int32} {x3 : Int32} {c0 m0 : St} {L0 : List Nat} {r : Int32} {L1 : List Nat} {c1 m1 : St} (hL : L ≤ 3072) (hX : va_X b L xs s s.heap) (hbl : b < s.heap.size) (hbA : ¬ A b) (ex : x3 = nI i) (hi : i + 6 ≤ L) (Xc : CX p s m args c Ec R_law code 4 A) (Xm : CX p s m args c Em R_law code 4 A) (hN : KN s) (hLc : ∀ k, fxC k = true → k ∈ eL Ec) (hLm : ∀ k, fxM k = true → k ∈ eL Em) (hLL : L0 = eL Ec) (G : G2 Ec Em c0 m0 A s H locs) (hC : fX9_image L0 (xs (i + 1)) c0 = some (r, L1, c1)) (hM : fX10_image (xs (i + 1)) m0 = some (r, m1)) (hca : ca + 12 ≤ 600000) (hsl : sl + 980 ≤ 7302250) (hl : lv_has ls 4 [(0, .ref b), (1, .ref (eq Ec 0)), (2, .ref (eq Em 500)), (3, .int x3)]) (kk : ∀ (E2 : Ev) (H : Heap) (locs : List Loc), Ext Ec E2 L1 → G2 E2 Em c1 m1 A s H locs → W p l e room_1 s m args below meth c H locs (ca + 12) (sl + 980) Q (F0 m 1152 ls [])) : W p l e room_1 s m args below meth c H locs ca sl Q (F0 m 1106 ls []) := by
  have hx := Xc.1.1
  have hb := Xc.1.2.1
  refine lv_aload_n hx hb dL_law_1106 rfl (lv_at hl 1 rfl) ?_
  refine lv_aload_n hx hb dL_law_1107 rfl (lv_at hl 0 rfl) ?_
  refine lv_iload_n hx hb dL_law_1108 rfl (lv_at hl 3 rfl) ?_
  refine lv_iconst (v := (1 : Int32)) hx hb dL_law_1109 (by decide) ?_
  refine lv_iadd hx hb dL_law_1110 ?_
  refine sld hx hb hX hbl hbA G.2.2.2 (j := 1) ex rfl (by omega) hL dL_law_1111 ?_
  refine lcA (As := [.int (xs (i + 1))]) (rest := []) Xc hN G kc_L_139 (tX9_image l Ec c0 _ hLc hLL (xs (i + 1)) hC) (rcv Xc G.c (hLc 0 rfl) (cO9 rfl) rfl) rfl rfl ⟨(Nat.le_of_ble_eq_true rfl), (Nat.le_of_ble_eq_true rfl)⟩ rfl hl.1 rfl (Nat.le_of_ble_eq_true rfl) dL_law_1112 (c2 := ca + 12) (n2 := sl + 980) (by omega) (by omega) hca hsl (fun E2 H locs hE G => ?_)
  refine lv_aload_n hx hb dL_law_1115 rfl (lv_at hl 2 rfl) ?_
  refine lv_aload_n hx hb dL_law_1116 rfl (lv_at hl 0 rfl) ?_
  refine lv_iload_n hx hb dL_law_1117 rfl (lv_at hl 3 rfl) ?_
  refine lv_iconst (v := (1 : Int32)) hx hb dL_law_1118 (by decide) ?_
  refine lv_iadd hx hb dL_law_1119 ?_
  refine sld hx hb hX hbl hbA G.2.2.2 (j := 1) ex rfl (by omega) hL dL_law_1120 ?_
  refine lmW (As := [.int (xs (i + 1))]) (rest := [.int r]) Xm G kc_L_142 (tX10_image l Em m0 _ hLm (xs (i + 1)) hM) (rcv Xm G.m (hLm 500 rfl) (cO10 rfl) rfl) rfl rfl ⟨(Nat.le_of_ble_eq_true rfl), (Nat.le_of_ble_eq_true rfl)⟩ rfl hl.1 rfl (Nat.le_of_ble_eq_true rfl) dL_law_1121 ⟨hca, hsl⟩ (fun H locs G => ?_)
  refine lv_icmp_eq (tgt := 1152) hx hb dL_law_1124 (by decide) (fun _ => ?_) (fun h9 => absurd rfl h9)
  exact kk E2 H locs hE G
set_option maxRecDepth 100000 in
theorem lw_case_31 {p : Program} {l : Launch} {e : Env} {s : State} {m : MethodId} {args : Array Value} {below : List Frame} {meth : Method} {c : Code} {H : Heap} {locs : List Loc} {Q : State → Prop} {ls : Array Slot} {Ec Em : Ev} {A : Nat → Prop} {b L i ca sl : Nat} {xs : Nat → Int32} {x3 : Int32} {c0 m0 : St} {L0 : List Nat} {r : Int32} {L1 : List Nat} {c1 m1 : St} (hL : L ≤ 3072) (hX : va_X b L xs s s.heap) (hbl : b < s.heap.size) (hbA : ¬ A b) (ex : x3 = nI i) (hi : i + 6 ≤ L) (Xc : CX p s m args c Ec R_law code 4 A) (Xm : CX p s m args c Em R_law code 4 A) (hN : KN s) (hLc : ∀ k, fxC k = true → k ∈ eL Ec) (hLm : ∀ k, fxM k = true → k ∈ eL Em) (hLL : L0 = eL Ec) (G : G2 Ec Em c0 m0 A s H locs) (hC : fX9_back L0 (xs (i + 1)) c0 = some (r, c1)) (hM : fX10_back (xs (i + 1)) m0 = some (r, m1)) (hca : ca + 12 ≤ 600000) (hsl : sl + 980 ≤ 7302250) (hl : lv_has ls 4 [(0, .ref b), (1, .ref (eq Ec 0)), (2, .ref (eq Em 500)), (3, .int x3)]) (kk : ∀ (E2 : Ev) (H : Heap) (locs : List Loc), Ext Ec E2 L0 → G2 E2 Em c1 m1 A s H locs → W p l e room_1 s m args below meth c H locs (ca + 12) (sl + 980) Q (F0 m 1152 ls [])) : W p l e room_1 s m args below meth c H locs ca sl Q (F0 m 1129 ls []) := by
  have hx := Xc.1.1
  have hb := Xc.1.2.1
  refine lv_aload_n hx hb dL_law_1129 rfl (lv_at hl 1 rfl) ?_
  refine lv_aload_n hx hb dL_law_1130 rfl (lv_at hl 0 rfl) ?_
  refine lv_iload_n hx hb dL_law_1131 rfl (lv_at hl 3 rfl) ?_
  refine lv_iconst (v := (1 : Int32)) hx hb dL_law_1132 (by decide) ?_
  refine lv_iadd hx hb dL_law_1133 ?_
  refine sld hx hb hX hbl hbA G.2.2.2 (j := 1) ex rfl (by omega) hL dL_law_1134 ?_
  refine W.widen (k := ca + 12) (n := sl + 980) (by omega) (by omega) ?_
  refine lcW (As := [.int (xs (i + 1))]) (rest := []) Xc G kc_L_143 (tX9_back l Ec c0 _ hLc hLL (xs (i + 1)) hC) (rcv Xc G.c (hLc 0 rfl) (cO9 rfl) rfl) rfl rfl ⟨(Nat.le_of_ble_eq_true rfl), (Nat.le_of_ble_eq_true rfl)⟩ rfl hl.1 rfl (Nat.le_of_ble_eq_true rfl) dL_law_1135 ⟨hca, hsl⟩ (fun H locs G => ?_)
  refine lv_aload_n hx hb dL_law_1138 rfl (lv_at hl 2 rfl) ?_
  refine lv_aload_n hx hb dL_law_1139 rfl (lv_at hl 0 rfl) ?_
  refine lv_iload_n hx hb dL_law_1140 rfl (lv_at hl 3 rfl) ?_
  refine lv_iconst (v := (1 : Int32)) hx hb dL_law_1141 (by decide) ?_
  refine lv_iadd hx hb dL_law_1142 ?_
  refine sld hx hb hX hbl hbA G.2.2.2 (j := 1) ex rfl (by omega) hL dL_law_1143 ?_
  refine lmW (As := [.int (xs (i + 1))]) (rest := [.int r]) Xm G kc_L_146 (tX10_back l Em m0 _ hLm (xs (i + 1)) hM) (rcv Xm G.m (hLm 500 rfl) (cO10 rfl) rfl) rfl rfl ⟨(Nat.le_of_ble_eq_true rfl), (Nat.le_of_ble_eq_true rfl)⟩ rfl hl.1 rfl (Nat.le_of_ble_eq_true rfl) dL_law_1144 ⟨hca, hsl⟩ (fun H locs G => ?_)
  refine lv_icmp_eq (tgt := 1152) hx hb dL_law_1147 (by decide) (fun _ => ?_) (fun h9 => absurd rfl h9)
  exact kk Ec _ _ ⟨by rw [hLL]; rfl, fun _ _ => rfl, fun k hk => by rw [hLL]; exact hk⟩ G
