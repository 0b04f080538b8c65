theorem dX10_readsAll_0 : decode cX10_readsAll 0 = .ok (.aload_n 0, 1) := by decide +kernel
theorem dX10_readsAll_1 : decode cX10_readsAll 1 = .ok (.invokevirtual 311, 3) := by decide +kernel
theorem dX10_readsAll_4 : decode cX10_readsAll 4 = .ok (.iconst 0, 1) := by decide +kernel
theorem dX10_readsAll_5 : decode cX10_readsAll 5 = .ok (.istore_n 1, 1) := by decide +kernel
theorem dX10_readsAll_6 : decode cX10_readsAll 6 = .ok (.iload_n 1, 1) := by decide +kernel
theorem dX10_readsAll_7 : decode cX10_readsAll 7 = .ok (.bipush 6, 2) := by decide +kernel
theorem dX10_readsAll_9 : decode cX10_readsAll 9 = .ok (.if_icmp .gt 16, 3) := by decide +kernel
theorem dX10_readsAll_12 : decode cX10_readsAll 12 = .ok (.aload_n 0, 1) := by decide +kernel
theorem dX10_readsAll_13 : decode cX10_readsAll 13 = .ok (.getfield 64, 3) := by decide +kernel
theorem dX10_readsAll_16 : decode cX10_readsAll 16 = .ok (.iload_n 1, 1) := by decide +kernel
theorem dX10_readsAll_17 : decode cX10_readsAll 17 = .ok (.iconst 0, 1) := by decide +kernel
theorem dX10_readsAll_18 : decode cX10_readsAll 18 = .ok (.iastore, 1) := by decide +kernel
theorem dX10_readsAll_19 : decode cX10_readsAll 19 = .ok (.iinc 1 1, 3) := by decide +kernel
theorem dX10_readsAll_22 : decode cX10_readsAll 22 = .ok (.goto (-16), 3) := by decide +kernel
theorem dX10_readsAll_25 : decode cX10_readsAll 25 = .ok (.iconst 0, 1) := by decide +kernel
theorem dX10_readsAll_26 : decode cX10_readsAll 26 = .ok (.istore_n 1, 1) := by decide +kernel
theorem dX10_readsAll_27 : decode cX10_readsAll 27 = .ok (.iload_n 1, 1) := by decide +kernel
theorem dX10_readsAll_28 : decode cX10_readsAll 28 = .ok (.bipush 100, 2) := by decide +kernel
theorem dX10_readsAll_30 : decode cX10_readsAll 30 = .ok (.if_icmp .ge 16, 3) := by decide +kernel
theorem dX10_readsAll_33 : decode cX10_readsAll 33 = .ok (.aload_n 0, 1) := by decide +kernel
theorem dX10_readsAll_34 : decode cX10_readsAll 34 = .ok (.getfield 88, 3) := by decide +kernel
theorem dX10_readsAll_37 : decode cX10_readsAll 37 = .ok (.iload_n 1, 1) := by decide +kernel
theorem dX10_readsAll_38 : decode cX10_readsAll 38 = .ok (.iconst 0, 1) := by decide +kernel
theorem dX10_readsAll_39 : decode cX10_readsAll 39 = .ok (.iastore, 1) := by decide +kernel
theorem dX10_readsAll_40 : decode cX10_readsAll 40 = .ok (.iinc 1 1, 3) := by decide +kernel
theorem dX10_readsAll_43 : decode cX10_readsAll 43 = .ok (.goto (-16), 3) := by decide +kernel
theorem dX10_readsAll_46 : decode cX10_readsAll 46 = .ok (.iconst 0, 1) := by decide +kernel
theorem dX10_readsAll_47 : decode cX10_readsAll 47 = .ok (.istore_n 1, 1) := by decide +kernel
theorem dX10_readsAll_48 : decode cX10_readsAll 48 = .ok (.iconst 1, 1) := by decide +kernel
theorem dX10_readsAll_49 : decode cX10_readsAll 49 = .ok (.istore_n 2, 1) := by decide +kernel
theorem dX10_readsAll_50 : decode cX10_readsAll 50 = .ok (.iload_n 2, 1) := by decide +kernel
theorem dX10_readsAll_51 : decode cX10_readsAll 51 = .ok (.ifCond .eq 19, 3) := by decide +kernel
theorem dX10_readsAll_54 : decode cX10_readsAll 54 = .ok (.aload_n 0, 1) := by decide +kernel
theorem dX10_readsAll_55 : decode cX10_readsAll 55 = .ok (.iload_n 1, 1) := by decide +kernel
theorem dX10_readsAll_56 : decode cX10_readsAll 56 = .ok (.invokevirtual 314, 3) := by decide +kernel
theorem dX10_readsAll_59 : decode cX10_readsAll 59 = .ok (.iinc 1 1, 3) := by decide +kernel
theorem dX10_readsAll_62 : decode cX10_readsAll 62 = .ok (.aload_n 0, 1) := by decide +kernel
theorem dX10_readsAll_63 : decode cX10_readsAll 63 = .ok (.invokevirtual 317, 3) := by decide +kernel
theorem dX10_readsAll_66 : decode cX10_readsAll 66 = .ok (.istore_n 2, 1) := by decide +kernel
theorem dX10_readsAll_67 : decode cX10_readsAll 67 = .ok (.goto (-17), 3) := by decide +kernel
theorem dX10_readsAll_70 : decode cX10_readsAll 70 = .ok (.aload_n 0, 1) := by decide +kernel
theorem dX10_readsAll_71 : decode cX10_readsAll 71 = .ok (.iconst 0, 1) := by decide +kernel
theorem dX10_readsAll_72 : decode cX10_readsAll 72 = .ok (.putfield 160, 3) := by decide +kernel
theorem dX10_readsAll_75 : decode cX10_readsAll 75 = .ok (.return_, 1) := by decide +kernel
theorem dX10_begins_0 : decode cX10_begins 0 = .ok (.aload_n 0, 1) := by decide +kernel
theorem dX10_begins_1 : decode cX10_begins 1 = .ok (.getfield 52, 3) := by decide +kernel
theorem dX10_begins_4 : decode cX10_begins 4 = .ok (.aload_n 0, 1) := by decide +kernel
theorem dX10_begins_5 : decode cX10_begins 5 = .ok (.getfield 13, 3) := by decide +kernel
theorem dX10_begins_8 : decode cX10_begins 8 = .ok (.invokestatic 320, 3) := by decide +kernel
theorem dX10_begins_11 : decode cX10_begins 11 = .ok (.aload_n 0, 1) := by decide +kernel
theorem dX10_begins_12 : decode cX10_begins 12 = .ok (.getfield 55, 3) := by decide +kernel
theorem dX10_begins_15 : decode cX10_begins 15 = .ok (.aload_n 0, 1) := by decide +kernel
theorem dX10_begins_16 : decode cX10_begins 16 = .ok (.getfield 16, 3) := by decide +kernel
theorem dX10_begins_19 : decode cX10_begins 19 = .ok (.invokestatic 320, 3) := by decide +kernel
theorem dX10_begins_22 : decode cX10_begins 22 = .ok (.aload_n 0, 1) := by decide +kernel
theorem dX10_begins_23 : decode cX10_begins 23 = .ok (.getfield 58, 3) := by decide +kernel
theorem dX10_begins_26 : decode cX10_begins 26 = .ok (.aload_n 0, 1) := by decide +kernel
theorem dX10_begins_27 : decode cX10_begins 27 = .ok (.getfield 22, 3) := by decide +kernel
theorem dX10_begins_30 : decode cX10_begins 30 = .ok (.invokestatic 320, 3) := by decide +kernel
theorem dX10_begins_33 : decode cX10_begins 33 = .ok (.aload_n 0, 1) := by decide +kernel
theorem dX10_begins_34 : decode cX10_begins 34 = .ok (.getfield 61, 3) := by decide +kernel
theorem dX10_begins_37 : decode cX10_begins 37 = .ok (.aload_n 0, 1) := by decide +kernel
theorem dX10_begins_38 : decode cX10_begins 38 = .ok (.getfield 31, 3) := by decide +kernel
theorem dX10_begins_41 : decode cX10_begins 41 = .ok (.invokestatic 320, 3) := by decide +kernel
theorem dX10_begins_44 : decode cX10_begins 44 = .ok (.aload_n 0, 1) := by decide +kernel
theorem dX10_begins_45 : decode cX10_begins 45 = .ok (.getfield 9, 3) := by decide +kernel
theorem dX10_begins_48 : decode cX10_begins 48 = .ok (.bipush 6, 2) := by decide +kernel
theorem dX10_begins_50 : decode cX10_begins 50 = .ok (.iconst 0, 1) := by decide +kernel
theorem dX10_begins_51 : decode cX10_begins 51 = .ok (.iastore, 1) := by decide +kernel
theorem dX10_begins_52 : decode cX10_begins 52 = .ok (.aload_n 0, 1) := by decide +kernel
theorem dX10_begins_53 : decode cX10_begins 53 = .ok (.getfield 9, 3) := by decide +kernel
theorem dX10_begins_56 : decode cX10_begins 56 = .ok (.bipush 7, 2) := by decide +kernel
theorem dX10_begins_58 : decode cX10_begins 58 = .ok (.iconst 0, 1) := by decide +kernel
theorem dX10_begins_59 : decode cX10_begins 59 = .ok (.iastore, 1) := by decide +kernel
theorem dX10_begins_60 : decode cX10_begins 60 = .ok (.aload_n 0, 1) := by decide +kernel
theorem dX10_begins_61 : decode cX10_begins 61 = .ok (.getfield 9, 3) := by decide +kernel
theorem dX10_begins_64 : decode cX10_begins 64 = .ok (.bipush 8, 2) := by decide +kernel
theorem dX10_begins_66 : decode cX10_begins 66 = .ok (.iconst 0, 1) := by decide +kernel
theorem dX10_begins_67 : decode cX10_begins 67 = .ok (.iastore, 1) := by decide +kernel
theorem dX10_begins_68 : decode cX10_begins 68 = .ok (.iconst 0, 1) := by decide +kernel
theorem dX10_begins_69 : decode cX10_begins 69 = .ok (.istore_n 1, 1) := by decide +kernel
theorem dX10_begins_70 : decode cX10_begins 70 = .ok (.iload_n 1, 1) := by decide +kernel
theorem dX10_begins_71 : decode cX10_begins 71 = .ok (.bipush 8, 2) := by decide +kernel
theorem dX10_begins_73 : decode cX10_begins 73 = .ok (.if_icmp .ge 16, 3) := by decide +kernel
theorem dX10_begins_76 : decode cX10_begins 76 = .ok (.aload_n 0, 1) := by decide +kernel
theorem dX10_begins_77 : decode cX10_begins 77 = .ok (.getfield 28, 3) := by decide +kernel
theorem dX10_begins_80 : decode cX10_begins 80 = .ok (.iload_n 1, 1) := by decide +kernel
theorem dX10_begins_81 : decode cX10_begins 81 = .ok (.iconst (-1), 1) := by decide +kernel
theorem dX10_begins_82 : decode cX10_begins 82 = .ok (.iastore, 1) := by decide +kernel
theorem dX10_begins_83 : decode cX10_begins 83 = .ok (.iinc 1 1, 3) := by decide +kernel
theorem dX10_begins_86 : decode cX10_begins 86 = .ok (.goto (-16), 3) := by decide +kernel
theorem dX10_begins_89 : decode cX10_begins 89 = .ok (.iconst 0, 1) := by decide +kernel
theorem dX10_begins_90 : decode cX10_begins 90 = .ok (.istore_n 1, 1) := by decide +kernel
theorem dX10_begins_91 : decode cX10_begins 91 = .ok (.iload_n 1, 1) := by decide +kernel
theorem dX10_begins_92 : decode cX10_begins 92 = .ok (.iconst 3, 1) := by decide +kernel
theorem dX10_begins_93 : decode cX10_begins 93 = .ok (.if_icmp .ge 16, 3) := by decide +kernel
theorem dX10_begins_96 : decode cX10_begins 96 = .ok (.aload_n 0, 1) := by decide +kernel
theorem dX10_begins_97 : decode cX10_begins 97 = .ok (.getfield 37, 3) := by decide +kernel
theorem dX10_begins_100 : decode cX10_begins 100 = .ok (.iload_n 1, 1) := by decide +kernel
theorem dX10_begins_101 : decode cX10_begins 101 = .ok (.iconst 0, 1) := by decide +kernel
theorem dX10_begins_102 : decode cX10_begins 102 = .ok (.iastore, 1) := by decide +kernel
theorem dX10_begins_103 : decode cX10_begins 103 = .ok (.iinc 1 1, 3) := by decide +kernel
theorem dX10_begins_106 : decode cX10_begins 106 = .ok (.goto (-15), 3) := by decide +kernel
theorem dX10_begins_109 : decode cX10_begins 109 = .ok (.return_, 1) := by decide +kernel
theorem dX10_duchy_0 : decode cX10_duchy 0 = .ok (.aload_n 0, 1) := by decide +kernel
theorem dX10_duchy_1 : decode cX10_duchy 1 = .ok (.invokevirtual 324, 3) := by decide +kernel
theorem dX10_duchy_4 : decode cX10_duchy 4 = .ok (.aload_n 0, 1) := by decide +kernel
theorem dX10_duchy_5 : decode cX10_duchy 5 = .ok (.getfield 187, 3) := by decide +kernel
theorem dX10_duchy_8 : decode cX10_duchy 8 = .ok (.ifCond .le 11, 3) := by decide +kernel
theorem dX10_duchy_11 : decode cX10_duchy 11 = .ok (.bipush (-2), 2) := by decide +kernel
theorem dX10_duchy_13 : decode cX10_duchy 13 = .ok (.aload_n 0, 1) := by decide +kernel
theorem dX10_duchy_14 : decode cX10_duchy 14 = .ok (.getfield 187, 3) := by decide +kernel
theorem dX10_duchy_17 : decode cX10_duchy 17 = .ok (.isub, 1) := by decide +kernel
theorem dX10_duchy_18 : decode cX10_duchy 18 = .ok (.ireturn, 1) := by decide +kernel
theorem dX10_duchy_19 : decode cX10_duchy 19 = .ok (.iconst 0, 1) := by decide +kernel
theorem dX10_duchy_20 : decode cX10_duchy 20 = .ok (.istore_n 1, 1) := by decide +kernel
theorem dX10_duchy_21 : decode cX10_duchy 21 = .ok (.iload_n 1, 1) := by decide +kernel
theorem dX10_duchy_22 : decode cX10_duchy 22 = .ok (.bipush 10, 2) := by decide +kernel
theorem dX10_duchy_24 : decode cX10_duchy 24 = .ok (.if_icmp .ge 31, 3) := by decide +kernel
theorem dX10_duchy_27 : decode cX10_duchy 27 = .ok (.aload_n 0, 1) := by decide +kernel
theorem dX10_duchy_28 : decode cX10_duchy 28 = .ok (.getfield 9, 3) := by decide +kernel
theorem dX10_duchy_31 : decode cX10_duchy 31 = .ok (.iload_n 1, 1) := by decide +kernel
theorem dX10_duchy_32 : decode cX10_duchy 32 = .ok (.iload_n 1, 1) := by decide +kernel
theorem dX10_duchy_33 : decode cX10_duchy 33 = .ok (.bipush 6, 2) := by decide +kernel
theorem dX10_duchy_35 : decode cX10_duchy 35 = .ok (.if_icmp .ge 12, 3) := by decide +kernel
theorem dX10_duchy_38 : decode cX10_duchy 38 = .ok (.aload_n 0, 1) := by decide +kernel
theorem dX10_duchy_39 : decode cX10_duchy 39 = .ok (.getfield 64, 3) := by decide +kernel
theorem dX10_duchy_42 : decode cX10_duchy 42 = .ok (.iload_n 1, 1) := by decide +kernel
theorem dX10_duchy_43 : decode cX10_duchy 43 = .ok (.iaload, 1) := by decide +kernel
theorem dX10_duchy_44 : decode cX10_duchy 44 = .ok (.goto 4, 3) := by decide +kernel
theorem dX10_duchy_47 : decode cX10_duchy 47 = .ok (.iconst 0, 1) := by decide +kernel
theorem dX10_duchy_48 : decode cX10_duchy 48 = .ok (.iastore, 1) := by decide +kernel
theorem dX10_duchy_49 : decode cX10_duchy 49 = .ok (.iinc 1 1, 3) := by decide +kernel
theorem dX10_duchy_52 : decode cX10_duchy 52 = .ok (.goto (-31), 3) := by decide +kernel
theorem dX10_duchy_55 : decode cX10_duchy 55 = .ok (.aload_n 0, 1) := by decide +kernel
theorem dX10_duchy_56 : decode cX10_duchy 56 = .ok (.getfield 67, 3) := by decide +kernel
theorem dX10_duchy_59 : decode cX10_duchy 59 = .ok (.aload_n 0, 1) := by decide +kernel
theorem dX10_duchy_60 : decode cX10_duchy 60 = .ok (.getfield 52, 3) := by decide +kernel
theorem dX10_duchy_63 : decode cX10_duchy 63 = .ok (.invokestatic 320, 3) := by decide +kernel
theorem dX10_duchy_66 : decode cX10_duchy 66 = .ok (.aload_n 0, 1) := by decide +kernel
theorem dX10_duchy_67 : decode cX10_duchy 67 = .ok (.getfield 70, 3) := by decide +kernel
theorem dX10_duchy_70 : decode cX10_duchy 70 = .ok (.aload_n 0, 1) := by decide +kernel
theorem dX10_duchy_71 : decode cX10_duchy 71 = .ok (.getfield 55, 3) := by decide +kernel
theorem dX10_duchy_74 : decode cX10_duchy 74 = .ok (.invokestatic 320, 3) := by decide +kernel
theorem dX10_duchy_77 : decode cX10_duchy 77 = .ok (.aload_n 0, 1) := by decide +kernel
theorem dX10_duchy_78 : decode cX10_duchy 78 = .ok (.getfield 73, 3) := by decide +kernel
theorem dX10_duchy_81 : decode cX10_duchy 81 = .ok (.aload_n 0, 1) := by decide +kernel
theorem dX10_duchy_82 : decode cX10_duchy 82 = .ok (.getfield 19, 3) := by decide +kernel
theorem dX10_duchy_85 : decode cX10_duchy 85 = .ok (.invokestatic 320, 3) := by decide +kernel
theorem dX10_duchy_88 : decode cX10_duchy 88 = .ok (.aload_n 0, 1) := by decide +kernel
theorem dX10_duchy_89 : decode cX10_duchy 89 = .ok (.getfield 76, 3) := by decide +kernel
theorem dX10_duchy_92 : decode cX10_duchy 92 = .ok (.aload_n 0, 1) := by decide +kernel
theorem dX10_duchy_93 : decode cX10_duchy 93 = .ok (.getfield 58, 3) := by decide +kernel
theorem dX10_duchy_96 : decode cX10_duchy 96 = .ok (.invokestatic 320, 3) := by decide +kernel
theorem dX10_duchy_99 : decode cX10_duchy 99 = .ok (.aload_n 0, 1) := by decide +kernel
theorem dX10_duchy_100 : decode cX10_duchy 100 = .ok (.getfield 79, 3) := by decide +kernel
theorem dX10_duchy_103 : decode cX10_duchy 103 = .ok (.aload_n 0, 1) := by decide +kernel
theorem dX10_duchy_104 : decode cX10_duchy 104 = .ok (.getfield 25, 3) := by decide +kernel
theorem dX10_duchy_107 : decode cX10_duchy 107 = .ok (.invokestatic 320, 3) := by decide +kernel
theorem dX10_duchy_110 : decode cX10_duchy 110 = .ok (.aload_n 0, 1) := by decide +kernel
theorem dX10_duchy_111 : decode cX10_duchy 111 = .ok (.getfield 82, 3) := by decide +kernel
theorem dX10_duchy_114 : decode cX10_duchy 114 = .ok (.aload_n 0, 1) := by decide +kernel
theorem dX10_duchy_115 : decode cX10_duchy 115 = .ok (.getfield 61, 3) := by decide +kernel
theorem dX10_duchy_118 : decode cX10_duchy 118 = .ok (.invokestatic 320, 3) := by decide +kernel
theorem dX10_duchy_121 : decode cX10_duchy 121 = .ok (.aload_n 0, 1) := by decide +kernel
theorem dX10_duchy_122 : decode cX10_duchy 122 = .ok (.getfield 85, 3) := by decide +kernel
theorem dX10_duchy_125 : decode cX10_duchy 125 = .ok (.aload_n 0, 1) := by decide +kernel
theorem dX10_duchy_126 : decode cX10_duchy 126 = .ok (.getfield 34, 3) := by decide +kernel
theorem dX10_duchy_129 : decode cX10_duchy 129 = .ok (.invokestatic 320, 3) := by decide +kernel
theorem dX10_duchy_132 : decode cX10_duchy 132 = .ok (.aload_n 0, 1) := by decide +kernel
theorem dX10_duchy_133 : decode cX10_duchy 133 = .ok (.getfield 88, 3) := by decide +kernel
theorem dX10_duchy_136 : decode cX10_duchy 136 = .ok (.aload_n 0, 1) := by decide +kernel
theorem dX10_duchy_137 : decode cX10_duchy 137 = .ok (.getfield 40, 3) := by decide +kernel
theorem dX10_duchy_140 : decode cX10_duchy 140 = .ok (.invokestatic 320, 3) := by decide +kernel
theorem dX10_duchy_143 : decode cX10_duchy 143 = .ok (.aload_n 0, 1) := by decide +kernel
theorem dX10_duchy_144 : decode cX10_duchy 144 = .ok (.iconst 1, 1) := by decide +kernel
theorem dX10_duchy_145 : decode cX10_duchy 145 = .ok (.putfield 327, 3) := by decide +kernel
theorem dX10_duchy_148 : decode cX10_duchy 148 = .ok (.aload_n 0, 1) := by decide +kernel
theorem dX10_duchy_149 : decode cX10_duchy 149 = .ok (.invokevirtual 331, 3) := by decide +kernel
theorem dX10_duchy_152 : decode cX10_duchy 152 = .ok (.aload_n 0, 1) := by decide +kernel
theorem dX10_duchy_153 : decode cX10_duchy 153 = .ok (.iconst 0, 1) := by decide +kernel
theorem dX10_duchy_154 : decode cX10_duchy 154 = .ok (.putfield 334, 3) := by decide +kernel
theorem dX10_duchy_157 : decode cX10_duchy 157 = .ok (.aload_n 0, 1) := by decide +kernel
theorem dX10_duchy_158 : decode cX10_duchy 158 = .ok (.getfield 9, 3) := by decide +kernel
theorem dX10_duchy_161 : decode cX10_duchy 161 = .ok (.iconst 3, 1) := by decide +kernel
theorem dX10_duchy_162 : decode cX10_duchy 162 = .ok (.iaload, 1) := by decide +kernel
theorem dX10_duchy_163 : decode cX10_duchy 163 = .ok (.ireturn, 1) := by decide +kernel
theorem dX10_ruleClause_0 : decode cX10_ruleClause 0 = .ok (.aload_n 0, 1) := by decide +kernel
theorem dX10_ruleClause_1 : decode cX10_ruleClause 1 = .ok (.invokevirtual 210, 3) := by decide +kernel
theorem dX10_ruleClause_4 : decode cX10_ruleClause 4 = .ok (.aload_n 0, 1) := by decide +kernel
theorem dX10_ruleClause_5 : decode cX10_ruleClause 5 = .ok (.getfield 190, 3) := by decide +kernel
theorem dX10_ruleClause_8 : decode cX10_ruleClause 8 = .ok (.istore_n 2, 1) := by decide +kernel
theorem dX10_ruleClause_9 : decode cX10_ruleClause 9 = .ok (.aload_n 0, 1) := by decide +kernel
theorem dX10_ruleClause_10 : decode cX10_ruleClause 10 = .ok (.ldc_w 337, 3) := by decide +kernel
theorem dX10_ruleClause_13 : decode cX10_ruleClause 13 = .ok (.invokevirtual 213, 3) := by decide +kernel
theorem dX10_ruleClause_16 : decode cX10_ruleClause 16 = .ok (.ifCond .ne 10, 3) := by decide +kernel
theorem dX10_ruleClause_19 : decode cX10_ruleClause 19 = .ok (.aload_n 0, 1) := by decide +kernel
theorem dX10_ruleClause_20 : decode cX10_ruleClause 20 = .ok (.iconst 0, 1) := by decide +kernel
theorem dX10_ruleClause_21 : decode cX10_ruleClause 21 = .ok (.iload_n 2, 1) := by decide +kernel
theorem dX10_ruleClause_22 : decode cX10_ruleClause 22 = .ok (.invokevirtual 226, 3) := by decide +kernel
theorem dX10_ruleClause_25 : decode cX10_ruleClause 25 = .ok (.return_, 1) := by decide +kernel
theorem dX10_ruleClause_26 : decode cX10_ruleClause 26 = .ok (.iload_n 1, 1) := by decide +kernel
theorem dX10_ruleClause_27 : decode cX10_ruleClause 27 = .ok (.bipush 12, 2) := by decide +kernel
theorem dX10_ruleClause_29 : decode cX10_ruleClause 29 = .ok (.if_icmp .ne 10, 3) := by decide +kernel
theorem dX10_ruleClause_32 : decode cX10_ruleClause 32 = .ok (.aload_n 0, 1) := by decide +kernel
theorem dX10_ruleClause_33 : decode cX10_ruleClause 33 = .ok (.iconst 4, 1) := by decide +kernel
theorem dX10_ruleClause_34 : decode cX10_ruleClause 34 = .ok (.iload_n 2, 1) := by decide +kernel
theorem dX10_ruleClause_35 : decode cX10_ruleClause 35 = .ok (.invokevirtual 226, 3) := by decide +kernel
theorem dX10_ruleClause_38 : decode cX10_ruleClause 38 = .ok (.return_, 1) := by decide +kernel
theorem dX10_ruleClause_39 : decode cX10_ruleClause 39 = .ok (.aload_n 0, 1) := by decide +kernel
theorem dX10_ruleClause_40 : decode cX10_ruleClause 40 = .ok (.dup, 1) := by decide +kernel
theorem dX10_ruleClause_41 : decode cX10_ruleClause 41 = .ok (.getfield 190, 3) := by decide +kernel
theorem dX10_ruleClause_44 : decode cX10_ruleClause 44 = .ok (.iconst 4, 1) := by decide +kernel
theorem dX10_ruleClause_45 : decode cX10_ruleClause 45 = .ok (.iadd, 1) := by decide +kernel
theorem dX10_ruleClause_46 : decode cX10_ruleClause 46 = .ok (.putfield 190, 3) := by decide +kernel
theorem dX10_ruleClause_49 : decode cX10_ruleClause 49 = .ok (.bipush 12, 2) := by decide +kernel
theorem dX10_ruleClause_51 : decode cX10_ruleClause 51 = .ok (.aload_n 0, 1) := by decide +kernel
theorem dX10_ruleClause_52 : decode cX10_ruleClause 52 = .ok (.getfield 217, 3) := by decide +kernel
theorem dX10_ruleClause_55 : decode cX10_ruleClause 55 = .ok (.imul, 1) := by decide +kernel
theorem dX10_ruleClause_56 : decode cX10_ruleClause 56 = .ok (.iload_n 1, 1) := by decide +kernel
theorem dX10_ruleClause_57 : decode cX10_ruleClause 57 = .ok (.iadd, 1) := by decide +kernel
theorem dX10_ruleClause_58 : decode cX10_ruleClause 58 = .ok (.istore_n 3, 1) := by decide +kernel
theorem dX10_ruleClause_59 : decode cX10_ruleClause 59 = .ok (.aload_n 0, 1) := by decide +kernel
theorem dX10_ruleClause_60 : decode cX10_ruleClause 60 = .ok (.getfield 108, 3) := by decide +kernel
theorem dX10_ruleClause_63 : decode cX10_ruleClause 63 = .ok (.iload_n 3, 1) := by decide +kernel
theorem dX10_ruleClause_64 : decode cX10_ruleClause 64 = .ok (.aload_n 0, 1) := by decide +kernel
theorem dX10_ruleClause_65 : decode cX10_ruleClause 65 = .ok (.getfield 220, 3) := by decide +kernel
theorem dX10_ruleClause_68 : decode cX10_ruleClause 68 = .ok (.iastore, 1) := by decide +kernel
theorem dX10_ruleClause_69 : decode cX10_ruleClause 69 = .ok (.aload_n 0, 1) := by decide +kernel
theorem dX10_ruleClause_70 : decode cX10_ruleClause 70 = .ok (.invokevirtual 255, 3) := by decide +kernel
theorem dX10_ruleClause_73 : decode cX10_ruleClause 73 = .ok (.aload_n 0, 1) := by decide +kernel
theorem dX10_ruleClause_74 : decode cX10_ruleClause 74 = .ok (.getfield 111, 3) := by decide +kernel
theorem dX10_ruleClause_77 : decode cX10_ruleClause 77 = .ok (.iload_n 3, 1) := by decide +kernel
theorem dX10_ruleClause_78 : decode cX10_ruleClause 78 = .ok (.aload_n 0, 1) := by decide +kernel
theorem dX10_ruleClause_79 : decode cX10_ruleClause 79 = .ok (.getfield 220, 3) := by decide +kernel
theorem dX10_ruleClause_82 : decode cX10_ruleClause 82 = .ok (.iastore, 1) := by decide +kernel
theorem dX10_ruleClause_83 : decode cX10_ruleClause 83 = .ok (.aload_n 0, 1) := by decide +kernel
theorem dX10_ruleClause_84 : decode cX10_ruleClause 84 = .ok (.getfield 187, 3) := by decide +kernel
theorem dX10_ruleClause_87 : decode cX10_ruleClause 87 = .ok (.ifCond .ne 17, 3) := by decide +kernel
theorem dX10_ruleClause_90 : decode cX10_ruleClause 90 = .ok (.aload_n 0, 1) := by decide +kernel
theorem dX10_ruleClause_91 : decode cX10_ruleClause 91 = .ok (.ldc_w 339, 3) := by decide +kernel
theorem dX10_ruleClause_94 : decode cX10_ruleClause 94 = .ok (.invokevirtual 341, 3) := by decide +kernel
theorem dX10_ruleClause_97 : decode cX10_ruleClause 97 = .ok (.ifCond .eq 7, 3) := by decide +kernel
theorem dX10_ruleClause_100 : decode cX10_ruleClause 100 = .ok (.aload_n 0, 1) := by decide +kernel
theorem dX10_ruleClause_101 : decode cX10_ruleClause 101 = .ok (.invokevirtual 344, 3) := by decide +kernel
theorem dX10_ruleClause_104 : decode cX10_ruleClause 104 = .ok (.aload_n 0, 1) := by decide +kernel
theorem dX10_ruleClause_105 : decode cX10_ruleClause 105 = .ok (.getfield 114, 3) := by decide +kernel
theorem dX10_ruleClause_108 : decode cX10_ruleClause 108 = .ok (.iload_n 3, 1) := by decide +kernel
theorem dX10_ruleClause_109 : decode cX10_ruleClause 109 = .ok (.aload_n 0, 1) := by decide +kernel
theorem dX10_ruleClause_110 : decode cX10_ruleClause 110 = .ok (.getfield 220, 3) := by decide +kernel
theorem dX10_ruleClause_113 : decode cX10_ruleClause 113 = .ok (.iastore, 1) := by decide +kernel
theorem dX10_ruleClause_114 : decode cX10_ruleClause 114 = .ok (.return_, 1) := by decide +kernel
theorem dX10_rule_0 : decode cX10_rule 0 = .ok (.aload_n 0, 1) := by decide +kernel
theorem dX10_rule_1 : decode cX10_rule 1 = .ok (.getfield 347, 3) := by decide +kernel
theorem dX10_rule_4 : decode cX10_rule 4 = .ok (.bipush 6, 2) := by decide +kernel
theorem dX10_rule_6 : decode cX10_rule 6 = .ok (.if_icmp .ne 5, 3) := by decide +kernel
theorem dX10_rule_9 : decode cX10_rule 9 = .ok (.iconst (-1), 1) := by decide +kernel
theorem dX10_rule_10 : decode cX10_rule 10 = .ok (.ireturn, 1) := by decide +kernel
theorem dX10_rule_11 : decode cX10_rule 11 = .ok (.aload_n 0, 1) := by decide +kernel
theorem dX10_rule_12 : decode cX10_rule 12 = .ok (.aload_n 0, 1) := by decide +kernel
theorem dX10_rule_13 : decode cX10_rule 13 = .ok (.getfield 347, 3) := by decide +kernel
theorem dX10_rule_16 : decode cX10_rule 16 = .ok (.putfield 217, 3) := by decide +kernel
theorem dX10_rule_19 : decode cX10_rule 19 = .ok (.aload_n 0, 1) := by decide +kernel
theorem dX10_rule_20 : decode cX10_rule 20 = .ok (.invokevirtual 311, 3) := by decide +kernel
theorem dX10_rule_23 : decode cX10_rule 23 = .ok (.iconst 0, 1) := by decide +kernel
theorem dX10_rule_24 : decode cX10_rule 24 = .ok (.istore_n 1, 1) := by decide +kernel
theorem dX10_rule_25 : decode cX10_rule 25 = .ok (.iconst 1, 1) := by decide +kernel
theorem dX10_rule_26 : decode cX10_rule 26 = .ok (.istore_n 2, 1) := by decide +kernel
theorem dX10_rule_27 : decode cX10_rule 27 = .ok (.iload_n 2, 1) := by decide +kernel
theorem dX10_rule_28 : decode cX10_rule 28 = .ok (.ifCond .eq 19, 3) := by decide +kernel
theorem dX10_rule_31 : decode cX10_rule 31 = .ok (.aload_n 0, 1) := by decide +kernel
theorem dX10_rule_32 : decode cX10_rule 32 = .ok (.iload_n 1, 1) := by decide +kernel
theorem dX10_rule_33 : decode cX10_rule 33 = .ok (.invokevirtual 350, 3) := by decide +kernel
theorem dX10_rule_36 : decode cX10_rule 36 = .ok (.iinc 1 1, 3) := by decide +kernel
theorem dX10_rule_39 : decode cX10_rule 39 = .ok (.aload_n 0, 1) := by decide +kernel
theorem dX10_rule_40 : decode cX10_rule 40 = .ok (.invokevirtual 317, 3) := by decide +kernel
theorem dX10_rule_43 : decode cX10_rule 43 = .ok (.istore_n 2, 1) := by decide +kernel
theorem dX10_rule_44 : decode cX10_rule 44 = .ok (.goto (-17), 3) := by decide +kernel
theorem dX10_rule_47 : decode cX10_rule 47 = .ok (.aload_n 0, 1) := by decide +kernel
theorem dX10_rule_48 : decode cX10_rule 48 = .ok (.iconst 0, 1) := by decide +kernel
theorem dX10_rule_49 : decode cX10_rule 49 = .ok (.putfield 160, 3) := by decide +kernel
theorem dX10_rule_52 : decode cX10_rule 52 = .ok (.aload_n 0, 1) := by decide +kernel
theorem dX10_rule_53 : decode cX10_rule 53 = .ok (.getfield 105, 3) := by decide +kernel
theorem dX10_rule_56 : decode cX10_rule 56 = .ok (.aload_n 0, 1) := by decide +kernel
theorem dX10_rule_57 : decode cX10_rule 57 = .ok (.getfield 217, 3) := by decide +kernel
theorem dX10_rule_60 : decode cX10_rule 60 = .ok (.iload_n 1, 1) := by decide +kernel
theorem dX10_rule_61 : decode cX10_rule 61 = .ok (.iastore, 1) := by decide +kernel
theorem dX10_rule_62 : decode cX10_rule 62 = .ok (.aload_n 0, 1) := by decide +kernel
theorem dX10_rule_63 : decode cX10_rule 63 = .ok (.dup, 1) := by decide +kernel
theorem dX10_rule_64 : decode cX10_rule 64 = .ok (.getfield 347, 3) := by decide +kernel
theorem dX10_rule_67 : decode cX10_rule 67 = .ok (.aload_n 0, 1) := by decide +kernel
theorem dX10_rule_68 : decode cX10_rule 68 = .ok (.getfield 187, 3) := by decide +kernel
theorem dX10_rule_71 : decode cX10_rule 71 = .ok (.ifCond .ne 7, 3) := by decide +kernel
theorem dX10_rule_74 : decode cX10_rule 74 = .ok (.iconst 1, 1) := by decide +kernel
theorem dX10_rule_75 : decode cX10_rule 75 = .ok (.goto 4, 3) := by decide +kernel
theorem dX10_rule_78 : decode cX10_rule 78 = .ok (.iconst 0, 1) := by decide +kernel
theorem dX10_rule_79 : decode cX10_rule 79 = .ok (.iadd, 1) := by decide +kernel
theorem dX10_rule_80 : decode cX10_rule 80 = .ok (.putfield 347, 3) := by decide +kernel
theorem dX10_rule_83 : decode cX10_rule 83 = .ok (.aload_n 0, 1) := by decide +kernel
theorem dX10_rule_84 : decode cX10_rule 84 = .ok (.getfield 187, 3) := by decide +kernel
theorem dX10_rule_87 : decode cX10_rule 87 = .ok (.ifCond .le 13, 3) := by decide +kernel
theorem dX10_rule_90 : decode cX10_rule 90 = .ok (.bipush (-2), 2) := by decide +kernel
theorem dX10_rule_92 : decode cX10_rule 92 = .ok (.aload_n 0, 1) := by decide +kernel
theorem dX10_rule_93 : decode cX10_rule 93 = .ok (.getfield 187, 3) := by decide +kernel
theorem dX10_rule_96 : decode cX10_rule 96 = .ok (.isub, 1) := by decide +kernel
theorem dX10_rule_97 : decode cX10_rule 97 = .ok (.goto 9, 3) := by decide +kernel
theorem dX10_rule_100 : decode cX10_rule 100 = .ok (.aload_n 0, 1) := by decide +kernel
theorem dX10_rule_101 : decode cX10_rule 101 = .ok (.getfield 347, 3) := by decide +kernel
theorem dX10_rule_104 : decode cX10_rule 104 = .ok (.iconst 1, 1) := by decide +kernel
theorem dX10_rule_105 : decode cX10_rule 105 = .ok (.isub, 1) := by decide +kernel
theorem dX10_rule_106 : decode cX10_rule 106 = .ok (.ireturn, 1) := by decide +kernel
theorem dX10_force_0 : decode cX10_force 0 = .ok (.iload_n 1, 1) := by decide +kernel
theorem dX10_force_1 : decode cX10_force 1 = .ok (.i2l, 1) := by decide +kernel
theorem dX10_force_2 : decode cX10_force 2 = .ok (.ldc2_w 353, 3) := by decide +kernel
theorem dX10_force_5 : decode cX10_force 5 = .ok (.aload_n 0, 1) := by decide +kernel
theorem dX10_force_6 : decode cX10_force 6 = .ok (.getfield 347, 3) := by decide +kernel
theorem dX10_force_9 : decode cX10_force 9 = .ok (.iconst 1, 1) := by decide +kernel
theorem dX10_force_10 : decode cX10_force 10 = .ok (.isub, 1) := by decide +kernel
theorem dX10_force_11 : decode cX10_force 11 = .ok (.i2l, 1) := by decide +kernel
theorem dX10_force_12 : decode cX10_force 12 = .ok (.invokestatic 152, 3) := by decide +kernel
theorem dX10_force_15 : decode cX10_force 15 = .ok (.ifCond .ne 6, 3) := by decide +kernel
theorem dX10_force_18 : decode cX10_force 18 = .ok (.bipush (-2), 2) := by decide +kernel
theorem dX10_force_20 : decode cX10_force 20 = .ok (.ireturn, 1) := by decide +kernel
theorem dX10_force_21 : decode cX10_force 21 = .ok (.aload_n 0, 1) := by decide +kernel
theorem dX10_force_22 : decode cX10_force 22 = .ok (.getfield 9, 3) := by decide +kernel
theorem dX10_force_25 : decode cX10_force 25 = .ok (.bipush 11, 2) := by decide +kernel
theorem dX10_force_27 : decode cX10_force 27 = .ok (.iaload, 1) := by decide +kernel
theorem dX10_force_28 : decode cX10_force 28 = .ok (.istore_n 2, 1) := by decide +kernel
theorem dX10_force_29 : decode cX10_force 29 = .ok (.aload_n 0, 1) := by decide +kernel
theorem dX10_force_30 : decode cX10_force 30 = .ok (.getfield 9, 3) := by decide +kernel
theorem dX10_force_33 : decode cX10_force 33 = .ok (.bipush 11, 2) := by decide +kernel
theorem dX10_force_35 : decode cX10_force 35 = .ok (.iload_n 1, 1) := by decide +kernel
theorem dX10_force_36 : decode cX10_force 36 = .ok (.iastore, 1) := by decide +kernel
theorem dX10_force_37 : decode cX10_force 37 = .ok (.iload_n 2, 1) := by decide +kernel
theorem dX10_force_38 : decode cX10_force 38 = .ok (.ireturn, 1) := by decide +kernel
theorem dX10_truth_0 : decode cX10_truth 0 = .ok (.iload_n 0, 1) := by decide +kernel
theorem dX10_truth_1 : decode cX10_truth 1 = .ok (.ifCond .eq 7, 3) := by decide +kernel
theorem dX10_truth_4 : decode cX10_truth 4 = .ok (.lconst 1, 1) := by decide +kernel
theorem dX10_truth_5 : decode cX10_truth 5 = .ok (.goto 4, 3) := by decide +kernel
theorem dX10_truth_8 : decode cX10_truth 8 = .ok (.lconst 0, 1) := by decide +kernel
theorem dX10_truth_9 : decode cX10_truth 9 = .ok (.lreturn, 1) := by decide +kernel
theorem dX10_both_0 : decode cX10_both 0 = .ok (.iload_n 0, 1) := by decide +kernel
theorem dX10_both_1 : decode cX10_both 1 = .ok (.tableswitch 190 2 15 #[71, 75, 111, 126, 141, 156, 171, 190, 186, 190, 190, 79, 83, 97], 71) := by decide +kernel
theorem dX10_both_72 : decode cX10_both 72 = .ok (.lload_n 1, 1) := by decide +kernel
theorem dX10_both_73 : decode cX10_both 73 = .ok (.lload_n 3, 1) := by decide +kernel
theorem dX10_both_74 : decode cX10_both 74 = .ok (.ladd, 1) := by decide +kernel
theorem dX10_both_75 : decode cX10_both 75 = .ok (.lreturn, 1) := by decide +kernel
theorem dX10_both_76 : decode cX10_both 76 = .ok (.lload_n 1, 1) := by decide +kernel
theorem dX10_both_77 : decode cX10_both 77 = .ok (.lload_n 3, 1) := by decide +kernel
theorem dX10_both_78 : decode cX10_both 78 = .ok (.lsub, 1) := by decide +kernel
theorem dX10_both_79 : decode cX10_both 79 = .ok (.lreturn, 1) := by decide +kernel
theorem dX10_both_80 : decode cX10_both 80 = .ok (.lload_n 1, 1) := by decide +kernel
theorem dX10_both_81 : decode cX10_both 81 = .ok (.lload_n 3, 1) := by decide +kernel
theorem dX10_both_82 : decode cX10_both 82 = .ok (.lmul, 1) := by decide +kernel
theorem dX10_both_83 : decode cX10_both 83 = .ok (.lreturn, 1) := by decide +kernel
theorem dX10_both_84 : decode cX10_both 84 = .ok (.lload_n 3, 1) := by decide +kernel
theorem dX10_both_85 : decode cX10_both 85 = .ok (.lconst 0, 1) := by decide +kernel
theorem dX10_both_86 : decode cX10_both 86 = .ok (.lcmp, 1) := by decide +kernel
theorem dX10_both_87 : decode cX10_both 87 = .ok (.ifCond .ne 7, 3) := by decide +kernel
theorem dX10_both_90 : decode cX10_both 90 = .ok (.lconst 0, 1) := by decide +kernel
theorem dX10_both_91 : decode cX10_both 91 = .ok (.goto 6, 3) := by decide +kernel
theorem dX10_both_94 : decode cX10_both 94 = .ok (.lload_n 1, 1) := by decide +kernel
theorem dX10_both_95 : decode cX10_both 95 = .ok (.lload_n 3, 1) := by decide +kernel
theorem dX10_both_96 : decode cX10_both 96 = .ok (.ldiv, 1) := by decide +kernel
theorem dX10_both_97 : decode cX10_both 97 = .ok (.lreturn, 1) := by decide +kernel
theorem dX10_both_98 : decode cX10_both 98 = .ok (.lload_n 3, 1) := by decide +kernel
theorem dX10_both_99 : decode cX10_both 99 = .ok (.lconst 0, 1) := by decide +kernel
theorem dX10_both_100 : decode cX10_both 100 = .ok (.lcmp, 1) := by decide +kernel
theorem dX10_both_101 : decode cX10_both 101 = .ok (.ifCond .ne 7, 3) := by decide +kernel
theorem dX10_both_104 : decode cX10_both 104 = .ok (.lconst 0, 1) := by decide +kernel
theorem dX10_both_105 : decode cX10_both 105 = .ok (.goto 6, 3) := by decide +kernel
theorem dX10_both_108 : decode cX10_both 108 = .ok (.lload_n 1, 1) := by decide +kernel
theorem dX10_both_109 : decode cX10_both 109 = .ok (.lload_n 3, 1) := by decide +kernel
theorem dX10_both_110 : decode cX10_both 110 = .ok (.lrem, 1) := by decide +kernel
theorem dX10_both_111 : decode cX10_both 111 = .ok (.lreturn, 1) := by decide +kernel
theorem dX10_both_112 : decode cX10_both 112 = .ok (.lload_n 1, 1) := by decide +kernel
theorem dX10_both_113 : decode cX10_both 113 = .ok (.lload_n 3, 1) := by decide +kernel
theorem dX10_both_114 : decode cX10_both 114 = .ok (.lcmp, 1) := by decide +kernel
theorem dX10_both_115 : decode cX10_both 115 = .ok (.ifCond .ge 7, 3) := by decide +kernel
theorem dX10_both_118 : decode cX10_both 118 = .ok (.iconst 1, 1) := by decide +kernel
theorem dX10_both_119 : decode cX10_both 119 = .ok (.goto 4, 3) := by decide +kernel
theorem dX10_both_122 : decode cX10_both 122 = .ok (.iconst 0, 1) := by decide +kernel
theorem dX10_both_123 : decode cX10_both 123 = .ok (.invokestatic 359, 3) := by decide +kernel
theorem dX10_both_126 : decode cX10_both 126 = .ok (.lreturn, 1) := by decide +kernel
theorem dX10_both_127 : decode cX10_both 127 = .ok (.lload_n 1, 1) := by decide +kernel
theorem dX10_both_128 : decode cX10_both 128 = .ok (.lload_n 3, 1) := by decide +kernel
theorem dX10_both_129 : decode cX10_both 129 = .ok (.lcmp, 1) := by decide +kernel
theorem dX10_both_130 : decode cX10_both 130 = .ok (.ifCond .gt 7, 3) := by decide +kernel
theorem dX10_both_133 : decode cX10_both 133 = .ok (.iconst 1, 1) := by decide +kernel
theorem dX10_both_134 : decode cX10_both 134 = .ok (.goto 4, 3) := by decide +kernel
theorem dX10_both_137 : decode cX10_both 137 = .ok (.iconst 0, 1) := by decide +kernel
theorem dX10_both_138 : decode cX10_both 138 = .ok (.invokestatic 359, 3) := by decide +kernel
theorem dX10_both_141 : decode cX10_both 141 = .ok (.lreturn, 1) := by decide +kernel
theorem dX10_both_142 : decode cX10_both 142 = .ok (.lload_n 1, 1) := by decide +kernel
theorem dX10_both_143 : decode cX10_both 143 = .ok (.lload_n 3, 1) := by decide +kernel
theorem dX10_both_144 : decode cX10_both 144 = .ok (.lcmp, 1) := by decide +kernel
theorem dX10_both_145 : decode cX10_both 145 = .ok (.ifCond .ne 7, 3) := by decide +kernel
theorem dX10_both_148 : decode cX10_both 148 = .ok (.iconst 1, 1) := by decide +kernel
theorem dX10_both_149 : decode cX10_both 149 = .ok (.goto 4, 3) := by decide +kernel
theorem dX10_both_152 : decode cX10_both 152 = .ok (.iconst 0, 1) := by decide +kernel
theorem dX10_both_153 : decode cX10_both 153 = .ok (.invokestatic 359, 3) := by decide +kernel
theorem dX10_both_156 : decode cX10_both 156 = .ok (.lreturn, 1) := by decide +kernel
theorem dX10_both_157 : decode cX10_both 157 = .ok (.lload_n 1, 1) := by decide +kernel
theorem dX10_both_158 : decode cX10_both 158 = .ok (.lload_n 3, 1) := by decide +kernel
theorem dX10_both_159 : decode cX10_both 159 = .ok (.lcmp, 1) := by decide +kernel
theorem dX10_both_160 : decode cX10_both 160 = .ok (.ifCond .lt 7, 3) := by decide +kernel
theorem dX10_both_163 : decode cX10_both 163 = .ok (.iconst 1, 1) := by decide +kernel
theorem dX10_both_164 : decode cX10_both 164 = .ok (.goto 4, 3) := by decide +kernel
theorem dX10_both_167 : decode cX10_both 167 = .ok (.iconst 0, 1) := by decide +kernel
theorem dX10_both_168 : decode cX10_both 168 = .ok (.invokestatic 359, 3) := by decide +kernel
theorem dX10_both_171 : decode cX10_both 171 = .ok (.lreturn, 1) := by decide +kernel
theorem dX10_both_172 : decode cX10_both 172 = .ok (.lload_n 1, 1) := by decide +kernel
theorem dX10_both_173 : decode cX10_both 173 = .ok (.lload_n 3, 1) := by decide +kernel
theorem dX10_both_174 : decode cX10_both 174 = .ok (.lcmp, 1) := by decide +kernel
theorem dX10_both_175 : decode cX10_both 175 = .ok (.ifCond .le 7, 3) := by decide +kernel
theorem dX10_both_178 : decode cX10_both 178 = .ok (.iconst 1, 1) := by decide +kernel
theorem dX10_both_179 : decode cX10_both 179 = .ok (.goto 4, 3) := by decide +kernel
theorem dX10_both_182 : decode cX10_both 182 = .ok (.iconst 0, 1) := by decide +kernel
theorem dX10_both_183 : decode cX10_both 183 = .ok (.invokestatic 359, 3) := by decide +kernel
theorem dX10_both_186 : decode cX10_both 186 = .ok (.lreturn, 1) := by decide +kernel
theorem dX10_both_187 : decode cX10_both 187 = .ok (.lload_n 1, 1) := by decide +kernel
theorem dX10_both_188 : decode cX10_both 188 = .ok (.lload_n 3, 1) := by decide +kernel
theorem dX10_both_189 : decode cX10_both 189 = .ok (.land, 1) := by decide +kernel
theorem dX10_both_190 : decode cX10_both 190 = .ok (.lreturn, 1) := by decide +kernel
theorem dX10_both_191 : decode cX10_both 191 = .ok (.lload_n 1, 1) := by decide +kernel
theorem dX10_both_192 : decode cX10_both 192 = .ok (.lload_n 3, 1) := by decide +kernel
theorem dX10_both_193 : decode cX10_both 193 = .ok (.lor, 1) := by decide +kernel
theorem dX10_both_194 : decode cX10_both 194 = .ok (.lreturn, 1) := by decide +kernel
theorem dX10_answer_0 : decode cX10_answer 0 = .ok (.iconst 0, 1) := by decide +kernel
theorem dX10_answer_1 : decode cX10_answer 1 = .ok (.istore 4, 2) := by decide +kernel
theorem dX10_answer_3 : decode cX10_answer 3 = .ok (.iload_n 2, 1) := by decide +kernel
theorem dX10_answer_4 : decode cX10_answer 4 = .ok (.istore 5, 2) := by decide +kernel
theorem dX10_answer_6 : decode cX10_answer 6 = .ok (.iload 5, 2) := by decide +kernel
theorem dX10_answer_8 : decode cX10_answer 8 = .ok (.iload_n 3, 1) := by decide +kernel
theorem dX10_answer_9 : decode cX10_answer 9 = .ok (.if_icmp .ge 144, 3) := by decide +kernel
theorem dX10_answer_12 : decode cX10_answer 12 = .ok (.aload_n 0, 1) := by decide +kernel
theorem dX10_answer_13 : decode cX10_answer 13 = .ok (.getfield 99, 3) := by decide +kernel
theorem dX10_answer_16 : decode cX10_answer 16 = .ok (.sipush 300, 3) := by decide +kernel
theorem dX10_answer_19 : decode cX10_answer 19 = .ok (.iload_n 1, 1) := by decide +kernel
theorem dX10_answer_20 : decode cX10_answer 20 = .ok (.imul, 1) := by decide +kernel
theorem dX10_answer_21 : decode cX10_answer 21 = .ok (.iload 5, 2) := by decide +kernel
theorem dX10_answer_23 : decode cX10_answer 23 = .ok (.iadd, 1) := by decide +kernel
theorem dX10_answer_24 : decode cX10_answer 24 = .ok (.iaload, 1) := by decide +kernel
theorem dX10_answer_25 : decode cX10_answer 25 = .ok (.istore 6, 2) := by decide +kernel
theorem dX10_answer_27 : decode cX10_answer 27 = .ok (.aload_n 0, 1) := by decide +kernel
theorem dX10_answer_28 : decode cX10_answer 28 = .ok (.getfield 102, 3) := by decide +kernel
theorem dX10_answer_31 : decode cX10_answer 31 = .ok (.sipush 300, 3) := by decide +kernel
theorem dX10_answer_34 : decode cX10_answer 34 = .ok (.iload_n 1, 1) := by decide +kernel
theorem dX10_answer_35 : decode cX10_answer 35 = .ok (.imul, 1) := by decide +kernel
theorem dX10_answer_36 : decode cX10_answer 36 = .ok (.iload 5, 2) := by decide +kernel
theorem dX10_answer_38 : decode cX10_answer 38 = .ok (.iadd, 1) := by decide +kernel
theorem dX10_answer_39 : decode cX10_answer 39 = .ok (.iaload, 1) := by decide +kernel
theorem dX10_answer_40 : decode cX10_answer 40 = .ok (.istore 7, 2) := by decide +kernel
theorem dX10_answer_42 : decode cX10_answer 42 = .ok (.iload 6, 2) := by decide +kernel
theorem dX10_answer_44 : decode cX10_answer 44 = .ok (.ifCond .eq 9, 3) := by decide +kernel
theorem dX10_answer_47 : decode cX10_answer 47 = .ok (.iload 6, 2) := by decide +kernel
theorem dX10_answer_49 : decode cX10_answer 49 = .ok (.iconst 1, 1) := by decide +kernel
theorem dX10_answer_50 : decode cX10_answer 50 = .ok (.if_icmp .ne 34, 3) := by decide +kernel
theorem dX10_answer_53 : decode cX10_answer 53 = .ok (.aload_n 0, 1) := by decide +kernel
theorem dX10_answer_54 : decode cX10_answer 54 = .ok (.getfield 124, 3) := by decide +kernel
theorem dX10_answer_57 : decode cX10_answer 57 = .ok (.iload 4, 2) := by decide +kernel
theorem dX10_answer_59 : decode cX10_answer 59 = .ok (.iload 6, 2) := by decide +kernel
theorem dX10_answer_61 : decode cX10_answer 61 = .ok (.ifCond .ne 9, 3) := by decide +kernel
theorem dX10_answer_64 : decode cX10_answer 64 = .ok (.iload 7, 2) := by decide +kernel
theorem dX10_answer_66 : decode cX10_answer 66 = .ok (.i2l, 1) := by decide +kernel
theorem dX10_answer_67 : decode cX10_answer 67 = .ok (.goto 10, 3) := by decide +kernel
theorem dX10_answer_70 : decode cX10_answer 70 = .ok (.aload_n 0, 1) := by decide +kernel
theorem dX10_answer_71 : decode cX10_answer 71 = .ok (.getfield 120, 3) := by decide +kernel
theorem dX10_answer_74 : decode cX10_answer 74 = .ok (.iload 7, 2) := by decide +kernel
theorem dX10_answer_76 : decode cX10_answer 76 = .ok (.laload, 1) := by decide +kernel
theorem dX10_answer_77 : decode cX10_answer 77 = .ok (.lastore, 1) := by decide +kernel
theorem dX10_answer_78 : decode cX10_answer 78 = .ok (.iinc 4 1, 3) := by decide +kernel
theorem dX10_answer_81 : decode cX10_answer 81 = .ok (.goto 66, 3) := by decide +kernel
theorem dX10_answer_84 : decode cX10_answer 84 = .ok (.iload 6, 2) := by decide +kernel
theorem dX10_answer_86 : decode cX10_answer 86 = .ok (.bipush 9, 2) := by decide +kernel
theorem dX10_answer_88 : decode cX10_answer 88 = .ok (.if_icmp .ne 26, 3) := by decide +kernel
theorem dX10_answer_91 : decode cX10_answer 91 = .ok (.aload_n 0, 1) := by decide +kernel
theorem dX10_answer_92 : decode cX10_answer 92 = .ok (.getfield 124, 3) := by decide +kernel
theorem dX10_answer_95 : decode cX10_answer 95 = .ok (.iload 4, 2) := by decide +kernel
theorem dX10_answer_97 : decode cX10_answer 97 = .ok (.iconst 1, 1) := by decide +kernel
theorem dX10_answer_98 : decode cX10_answer 98 = .ok (.isub, 1) := by decide +kernel
theorem dX10_answer_99 : decode cX10_answer 99 = .ok (.lconst 1, 1) := by decide +kernel
theorem dX10_answer_100 : decode cX10_answer 100 = .ok (.aload_n 0, 1) := by decide +kernel
theorem dX10_answer_101 : decode cX10_answer 101 = .ok (.getfield 124, 3) := by decide +kernel
theorem dX10_answer_104 : decode cX10_answer 104 = .ok (.iload 4, 2) := by decide +kernel
theorem dX10_answer_106 : decode cX10_answer 106 = .ok (.iconst 1, 1) := by decide +kernel
theorem dX10_answer_107 : decode cX10_answer 107 = .ok (.isub, 1) := by decide +kernel
theorem dX10_answer_108 : decode cX10_answer 108 = .ok (.laload, 1) := by decide +kernel
theorem dX10_answer_109 : decode cX10_answer 109 = .ok (.lsub, 1) := by decide +kernel
theorem dX10_answer_110 : decode cX10_answer 110 = .ok (.lastore, 1) := by decide +kernel
theorem dX10_answer_111 : decode cX10_answer 111 = .ok (.goto 36, 3) := by decide +kernel
theorem dX10_answer_114 : decode cX10_answer 114 = .ok (.iinc 4 (-1), 3) := by decide +kernel
theorem dX10_answer_117 : decode cX10_answer 117 = .ok (.aload_n 0, 1) := by decide +kernel
theorem dX10_answer_118 : decode cX10_answer 118 = .ok (.getfield 124, 3) := by decide +kernel
theorem dX10_answer_121 : decode cX10_answer 121 = .ok (.iload 4, 2) := by decide +kernel
theorem dX10_answer_123 : decode cX10_answer 123 = .ok (.iconst 1, 1) := by decide +kernel
theorem dX10_answer_124 : decode cX10_answer 124 = .ok (.isub, 1) := by decide +kernel
theorem dX10_answer_125 : decode cX10_answer 125 = .ok (.iload 6, 2) := by decide +kernel
theorem dX10_answer_127 : decode cX10_answer 127 = .ok (.aload_n 0, 1) := by decide +kernel
theorem dX10_answer_128 : decode cX10_answer 128 = .ok (.getfield 124, 3) := by decide +kernel
theorem dX10_answer_131 : decode cX10_answer 131 = .ok (.iload 4, 2) := by decide +kernel
theorem dX10_answer_133 : decode cX10_answer 133 = .ok (.iconst 1, 1) := by decide +kernel
theorem dX10_answer_134 : decode cX10_answer 134 = .ok (.isub, 1) := by decide +kernel
theorem dX10_answer_135 : decode cX10_answer 135 = .ok (.laload, 1) := by decide +kernel
theorem dX10_answer_136 : decode cX10_answer 136 = .ok (.aload_n 0, 1) := by decide +kernel
theorem dX10_answer_137 : decode cX10_answer 137 = .ok (.getfield 124, 3) := by decide +kernel
theorem dX10_answer_140 : decode cX10_answer 140 = .ok (.iload 4, 2) := by decide +kernel
theorem dX10_answer_142 : decode cX10_answer 142 = .ok (.laload, 1) := by decide +kernel
theorem dX10_answer_143 : decode cX10_answer 143 = .ok (.invokestatic 363, 3) := by decide +kernel
theorem dX10_answer_146 : decode cX10_answer 146 = .ok (.lastore, 1) := by decide +kernel
theorem dX10_answer_147 : decode cX10_answer 147 = .ok (.iinc 5 1, 3) := by decide +kernel
theorem dX10_answer_150 : decode cX10_answer 150 = .ok (.goto (-144), 3) := by decide +kernel
theorem dX10_answer_153 : decode cX10_answer 153 = .ok (.aload_n 0, 1) := by decide +kernel
theorem dX10_answer_154 : decode cX10_answer 154 = .ok (.getfield 124, 3) := by decide +kernel
theorem dX10_answer_157 : decode cX10_answer 157 = .ok (.iconst 0, 1) := by decide +kernel
theorem dX10_answer_158 : decode cX10_answer 158 = .ok (.laload, 1) := by decide +kernel
theorem dX10_answer_159 : decode cX10_answer 159 = .ok (.lreturn, 1) := by decide +kernel
theorem dX10_wanted_0 : decode cX10_wanted 0 = .ok (.aload_n 0, 1) := by decide +kernel
theorem dX10_wanted_1 : decode cX10_wanted 1 = .ok (.getfield 9, 3) := by decide +kernel
theorem dX10_wanted_4 : decode cX10_wanted 4 = .ok (.bipush 11, 2) := by decide +kernel
theorem dX10_wanted_6 : decode cX10_wanted 6 = .ok (.iaload, 1) := by decide +kernel
theorem dX10_wanted_7 : decode cX10_wanted 7 = .ok (.istore_n 1, 1) := by decide +kernel
theorem dX10_wanted_8 : decode cX10_wanted 8 = .ok (.bipush 12, 2) := by decide +kernel
theorem dX10_wanted_10 : decode cX10_wanted 10 = .ok (.iload_n 1, 1) := by decide +kernel
theorem dX10_wanted_11 : decode cX10_wanted 11 = .ok (.imul, 1) := by decide +kernel
theorem dX10_wanted_12 : decode cX10_wanted 12 = .ok (.istore_n 2, 1) := by decide +kernel
theorem dX10_wanted_13 : decode cX10_wanted 13 = .ok (.iload_n 2, 1) := by decide +kernel
theorem dX10_wanted_14 : decode cX10_wanted 14 = .ok (.bipush 12, 2) := by decide +kernel
theorem dX10_wanted_16 : decode cX10_wanted 16 = .ok (.iload_n 1, 1) := by decide +kernel
theorem dX10_wanted_17 : decode cX10_wanted 17 = .ok (.imul, 1) := by decide +kernel
theorem dX10_wanted_18 : decode cX10_wanted 18 = .ok (.aload_n 0, 1) := by decide +kernel
theorem dX10_wanted_19 : decode cX10_wanted 19 = .ok (.getfield 105, 3) := by decide +kernel
theorem dX10_wanted_22 : decode cX10_wanted 22 = .ok (.iload_n 1, 1) := by decide +kernel
theorem dX10_wanted_23 : decode cX10_wanted 23 = .ok (.iaload, 1) := by decide +kernel
theorem dX10_wanted_24 : decode cX10_wanted 24 = .ok (.iadd, 1) := by decide +kernel
theorem dX10_wanted_25 : decode cX10_wanted 25 = .ok (.if_icmp .ge 64, 3) := by decide +kernel
theorem dX10_wanted_28 : decode cX10_wanted 28 = .ok (.aload_n 0, 1) := by decide +kernel
theorem dX10_wanted_29 : decode cX10_wanted 29 = .ok (.getfield 111, 3) := by decide +kernel
theorem dX10_wanted_32 : decode cX10_wanted 32 = .ok (.iload_n 2, 1) := by decide +kernel
theorem dX10_wanted_33 : decode cX10_wanted 33 = .ok (.iaload, 1) := by decide +kernel
theorem dX10_wanted_34 : decode cX10_wanted 34 = .ok (.aload_n 0, 1) := by decide +kernel
theorem dX10_wanted_35 : decode cX10_wanted 35 = .ok (.getfield 114, 3) := by decide +kernel
theorem dX10_wanted_38 : decode cX10_wanted 38 = .ok (.iload_n 2, 1) := by decide +kernel
theorem dX10_wanted_39 : decode cX10_wanted 39 = .ok (.iaload, 1) := by decide +kernel
theorem dX10_wanted_40 : decode cX10_wanted 40 = .ok (.if_icmp .eq 25, 3) := by decide +kernel
theorem dX10_wanted_43 : decode cX10_wanted 43 = .ok (.aload_n 0, 1) := by decide +kernel
theorem dX10_wanted_44 : decode cX10_wanted 44 = .ok (.iload_n 1, 1) := by decide +kernel
theorem dX10_wanted_45 : decode cX10_wanted 45 = .ok (.aload_n 0, 1) := by decide +kernel
theorem dX10_wanted_46 : decode cX10_wanted 46 = .ok (.getfield 111, 3) := by decide +kernel
theorem dX10_wanted_49 : decode cX10_wanted 49 = .ok (.iload_n 2, 1) := by decide +kernel
theorem dX10_wanted_50 : decode cX10_wanted 50 = .ok (.iaload, 1) := by decide +kernel
theorem dX10_wanted_51 : decode cX10_wanted 51 = .ok (.aload_n 0, 1) := by decide +kernel
theorem dX10_wanted_52 : decode cX10_wanted 52 = .ok (.getfield 114, 3) := by decide +kernel
theorem dX10_wanted_55 : decode cX10_wanted 55 = .ok (.iload_n 2, 1) := by decide +kernel
theorem dX10_wanted_56 : decode cX10_wanted 56 = .ok (.iaload, 1) := by decide +kernel
theorem dX10_wanted_57 : decode cX10_wanted 57 = .ok (.invokevirtual 355, 3) := by decide +kernel
theorem dX10_wanted_60 : decode cX10_wanted 60 = .ok (.lconst 1, 1) := by decide +kernel
theorem dX10_wanted_61 : decode cX10_wanted 61 = .ok (.lcmp, 1) := by decide +kernel
theorem dX10_wanted_62 : decode cX10_wanted 62 = .ok (.ifCond .ne 21, 3) := by decide +kernel
theorem dX10_wanted_65 : decode cX10_wanted 65 = .ok (.aload_n 0, 1) := by decide +kernel
theorem dX10_wanted_66 : decode cX10_wanted 66 = .ok (.iload_n 1, 1) := by decide +kernel
theorem dX10_wanted_67 : decode cX10_wanted 67 = .ok (.aload_n 0, 1) := by decide +kernel
theorem dX10_wanted_68 : decode cX10_wanted 68 = .ok (.getfield 108, 3) := by decide +kernel
theorem dX10_wanted_71 : decode cX10_wanted 71 = .ok (.iload_n 2, 1) := by decide +kernel
theorem dX10_wanted_72 : decode cX10_wanted 72 = .ok (.iaload, 1) := by decide +kernel
theorem dX10_wanted_73 : decode cX10_wanted 73 = .ok (.aload_n 0, 1) := by decide +kernel
theorem dX10_wanted_74 : decode cX10_wanted 74 = .ok (.getfield 111, 3) := by decide +kernel
theorem dX10_wanted_77 : decode cX10_wanted 77 = .ok (.iload_n 2, 1) := by decide +kernel
theorem dX10_wanted_78 : decode cX10_wanted 78 = .ok (.iaload, 1) := by decide +kernel
theorem dX10_wanted_79 : decode cX10_wanted 79 = .ok (.invokevirtual 355, 3) := by decide +kernel
theorem dX10_wanted_82 : decode cX10_wanted 82 = .ok (.lreturn, 1) := by decide +kernel
theorem dX10_wanted_83 : decode cX10_wanted 83 = .ok (.iinc 2 1, 3) := by decide +kernel
theorem dX10_wanted_86 : decode cX10_wanted 86 = .ok (.goto (-73), 3) := by decide +kernel
theorem dX10_wanted_89 : decode cX10_wanted 89 = .ok (.lconst 0, 1) := by decide +kernel
theorem dX10_wanted_90 : decode cX10_wanted 90 = .ok (.lreturn, 1) := by decide +kernel
theorem dX10_house_0 : decode cX10_house 0 = .ok (.aload_n 0, 1) := by decide +kernel
theorem dX10_house_1 : decode cX10_house 1 = .ok (.iload_n 1, 1) := by decide +kernel
theorem dX10_house_2 : decode cX10_house 2 = .ok (.invokevirtual 367, 3) := by decide +kernel
theorem dX10_house_5 : decode cX10_house 5 = .ok (.ifCond .ne 6, 3) := by decide +kernel
theorem dX10_house_8 : decode cX10_house 8 = .ok (.bipush (-2), 2) := by decide +kernel
theorem dX10_house_10 : decode cX10_house 10 = .ok (.ireturn, 1) := by decide +kernel
theorem dX10_house_11 : decode cX10_house 11 = .ok (.iload_n 2, 1) := by decide +kernel
theorem dX10_house_12 : decode cX10_house 12 = .ok (.tableswitch 100 0 6 #[44, 51, 58, 65, 72, 86, 93], 44) := by decide +kernel
theorem dX10_house_56 : decode cX10_house 56 = .ok (.aload_n 0, 1) := by decide +kernel
theorem dX10_house_57 : decode cX10_house 57 = .ok (.getfield 13, 3) := by decide +kernel
theorem dX10_house_60 : decode cX10_house 60 = .ok (.iload_n 1, 1) := by decide +kernel
theorem dX10_house_61 : decode cX10_house 61 = .ok (.iaload, 1) := by decide +kernel
theorem dX10_house_62 : decode cX10_house 62 = .ok (.ireturn, 1) := by decide +kernel
theorem dX10_house_63 : decode cX10_house 63 = .ok (.aload_n 0, 1) := by decide +kernel
theorem dX10_house_64 : decode cX10_house 64 = .ok (.getfield 16, 3) := by decide +kernel
theorem dX10_house_67 : decode cX10_house 67 = .ok (.iload_n 1, 1) := by decide +kernel
theorem dX10_house_68 : decode cX10_house 68 = .ok (.iaload, 1) := by decide +kernel
theorem dX10_house_69 : decode cX10_house 69 = .ok (.ireturn, 1) := by decide +kernel
theorem dX10_house_70 : decode cX10_house 70 = .ok (.aload_n 0, 1) := by decide +kernel
theorem dX10_house_71 : decode cX10_house 71 = .ok (.getfield 19, 3) := by decide +kernel
theorem dX10_house_74 : decode cX10_house 74 = .ok (.iload_n 1, 1) := by decide +kernel
theorem dX10_house_75 : decode cX10_house 75 = .ok (.iaload, 1) := by decide +kernel
theorem dX10_house_76 : decode cX10_house 76 = .ok (.ireturn, 1) := by decide +kernel
theorem dX10_house_77 : decode cX10_house 77 = .ok (.aload_n 0, 1) := by decide +kernel
theorem dX10_house_78 : decode cX10_house 78 = .ok (.getfield 22, 3) := by decide +kernel
theorem dX10_house_81 : decode cX10_house 81 = .ok (.iload_n 1, 1) := by decide +kernel
theorem dX10_house_82 : decode cX10_house 82 = .ok (.iaload, 1) := by decide +kernel
theorem dX10_house_83 : decode cX10_house 83 = .ok (.ireturn, 1) := by decide +kernel
theorem dX10_house_84 : decode cX10_house 84 = .ok (.aload_n 0, 1) := by decide +kernel
theorem dX10_house_85 : decode cX10_house 85 = .ok (.iload_n 1, 1) := by decide +kernel
theorem dX10_house_86 : decode cX10_house 86 = .ok (.invokevirtual 371, 3) := by decide +kernel
theorem dX10_house_89 : decode cX10_house 89 = .ok (.ifCond .eq 7, 3) := by decide +kernel
theorem dX10_house_92 : decode cX10_house 92 = .ok (.iconst 1, 1) := by decide +kernel
theorem dX10_house_93 : decode cX10_house 93 = .ok (.goto 4, 3) := by decide +kernel
theorem dX10_house_96 : decode cX10_house 96 = .ok (.iconst 0, 1) := by decide +kernel
theorem dX10_house_97 : decode cX10_house 97 = .ok (.ireturn, 1) := by decide +kernel
theorem dX10_house_98 : decode cX10_house 98 = .ok (.aload_n 0, 1) := by decide +kernel
theorem dX10_house_99 : decode cX10_house 99 = .ok (.getfield 25, 3) := by decide +kernel
theorem dX10_house_102 : decode cX10_house 102 = .ok (.iload_n 1, 1) := by decide +kernel
theorem dX10_house_103 : decode cX10_house 103 = .ok (.iaload, 1) := by decide +kernel
theorem dX10_house_104 : decode cX10_house 104 = .ok (.ireturn, 1) := by decide +kernel
theorem dX10_house_105 : decode cX10_house 105 = .ok (.aload_n 0, 1) := by decide +kernel
theorem dX10_house_106 : decode cX10_house 106 = .ok (.getfield 28, 3) := by decide +kernel
theorem dX10_house_109 : decode cX10_house 109 = .ok (.iload_n 1, 1) := by decide +kernel
theorem dX10_house_110 : decode cX10_house 110 = .ok (.iaload, 1) := by decide +kernel
theorem dX10_house_111 : decode cX10_house 111 = .ok (.ireturn, 1) := by decide +kernel
theorem dX10_house_112 : decode cX10_house 112 = .ok (.bipush (-2), 2) := by decide +kernel
theorem dX10_house_114 : decode cX10_house 114 = .ok (.ireturn, 1) := by decide +kernel
theorem dX10_officer_0 : decode cX10_officer 0 = .ok (.aload_n 0, 1) := by decide +kernel
theorem dX10_officer_1 : decode cX10_officer 1 = .ok (.iload_n 1, 1) := by decide +kernel
theorem dX10_officer_2 : decode cX10_officer 2 = .ok (.invokevirtual 374, 3) := by decide +kernel
theorem dX10_officer_5 : decode cX10_officer 5 = .ok (.ifCond .ne 5, 3) := by decide +kernel
theorem dX10_officer_8 : decode cX10_officer 8 = .ok (.iconst (-1), 1) := by decide +kernel
theorem dX10_officer_9 : decode cX10_officer 9 = .ok (.ireturn, 1) := by decide +kernel
theorem dX10_officer_10 : decode cX10_officer 10 = .ok (.iload_n 2, 1) := by decide +kernel
theorem dX10_officer_11 : decode cX10_officer 11 = .ok (.tableswitch 46 0 2 #[25, 32, 39], 25) := by decide +kernel
theorem dX10_officer_36 : decode cX10_officer 36 = .ok (.aload_n 0, 1) := by decide +kernel
theorem dX10_officer_37 : decode cX10_officer 37 = .ok (.getfield 31, 3) := by decide +kernel
theorem dX10_officer_40 : decode cX10_officer 40 = .ok (.iload_n 1, 1) := by decide +kernel
theorem dX10_officer_41 : decode cX10_officer 41 = .ok (.iaload, 1) := by decide +kernel
theorem dX10_officer_42 : decode cX10_officer 42 = .ok (.ireturn, 1) := by decide +kernel
theorem dX10_officer_43 : decode cX10_officer 43 = .ok (.aload_n 0, 1) := by decide +kernel
theorem dX10_officer_44 : decode cX10_officer 44 = .ok (.getfield 34, 3) := by decide +kernel
theorem dX10_officer_47 : decode cX10_officer 47 = .ok (.iload_n 1, 1) := by decide +kernel
theorem dX10_officer_48 : decode cX10_officer 48 = .ok (.iaload, 1) := by decide +kernel
theorem dX10_officer_49 : decode cX10_officer 49 = .ok (.ireturn, 1) := by decide +kernel
theorem dX10_officer_50 : decode cX10_officer 50 = .ok (.aload_n 0, 1) := by decide +kernel
theorem dX10_officer_51 : decode cX10_officer 51 = .ok (.getfield 37, 3) := by decide +kernel
theorem dX10_officer_54 : decode cX10_officer 54 = .ok (.iload_n 1, 1) := by decide +kernel
theorem dX10_officer_55 : decode cX10_officer 55 = .ok (.iaload, 1) := by decide +kernel
theorem dX10_officer_56 : decode cX10_officer 56 = .ok (.ireturn, 1) := by decide +kernel
theorem dX10_officer_57 : decode cX10_officer 57 = .ok (.iconst (-1), 1) := by decide +kernel
theorem dX10_officer_58 : decode cX10_officer 58 = .ok (.ireturn, 1) := by decide +kernel
theorem dX10_isSnowTold_0 : decode cX10_isSnowTold 0 = .ok (.aload_n 0, 1) := by decide +kernel
theorem dX10_isSnowTold_1 : decode cX10_isSnowTold 1 = .ok (.getfield 9, 3) := by decide +kernel
theorem dX10_isSnowTold_4 : decode cX10_isSnowTold 4 = .ok (.bipush 6, 2) := by decide +kernel
theorem dX10_isSnowTold_6 : decode cX10_isSnowTold 6 = .ok (.iaload, 1) := by decide +kernel
theorem dX10_isSnowTold_7 : decode cX10_isSnowTold 7 = .ok (.bipush 100, 2) := by decide +kernel
theorem dX10_isSnowTold_9 : decode cX10_isSnowTold 9 = .ok (.if_icmp .ge 23, 3) := by decide +kernel
theorem dX10_isSnowTold_12 : decode cX10_isSnowTold 12 = .ok (.aload_n 0, 1) := by decide +kernel
theorem dX10_isSnowTold_13 : decode cX10_isSnowTold 13 = .ok (.getfield 40, 3) := by decide +kernel
theorem dX10_isSnowTold_16 : decode cX10_isSnowTold 16 = .ok (.aload_n 0, 1) := by decide +kernel
theorem dX10_isSnowTold_17 : decode cX10_isSnowTold 17 = .ok (.getfield 9, 3) := by decide +kernel
theorem dX10_isSnowTold_20 : decode cX10_isSnowTold 20 = .ok (.bipush 6, 2) := by decide +kernel
theorem dX10_isSnowTold_22 : decode cX10_isSnowTold 22 = .ok (.iaload, 1) := by decide +kernel
theorem dX10_isSnowTold_23 : decode cX10_isSnowTold 23 = .ok (.iaload, 1) := by decide +kernel
theorem dX10_isSnowTold_24 : decode cX10_isSnowTold 24 = .ok (.iconst 1, 1) := by decide +kernel
theorem dX10_isSnowTold_25 : decode cX10_isSnowTold 25 = .ok (.if_icmp .ne 7, 3) := by decide +kernel
theorem dX10_isSnowTold_28 : decode cX10_isSnowTold 28 = .ok (.iconst 1, 1) := by decide +kernel
theorem dX10_isSnowTold_29 : decode cX10_isSnowTold 29 = .ok (.goto 4, 3) := by decide +kernel
theorem dX10_isSnowTold_32 : decode cX10_isSnowTold 32 = .ok (.iconst 0, 1) := by decide +kernel
theorem dX10_isSnowTold_33 : decode cX10_isSnowTold 33 = .ok (.ireturn, 1) := by decide +kernel
theorem dX10_tenthOf_0 : decode cX10_tenthOf 0 = .ok (.aload_n 0, 1) := by decide +kernel
theorem dX10_tenthOf_1 : decode cX10_tenthOf 1 = .ok (.getfield 13, 3) := by decide +kernel
theorem dX10_tenthOf_4 : decode cX10_tenthOf 4 = .ok (.iload_n 2, 1) := by decide +kernel
theorem dX10_tenthOf_5 : decode cX10_tenthOf 5 = .ok (.iaload, 1) := by decide +kernel
theorem dX10_tenthOf_6 : decode cX10_tenthOf 6 = .ok (.aload_n 0, 1) := by decide +kernel
theorem dX10_tenthOf_7 : decode cX10_tenthOf 7 = .ok (.getfield 9, 3) := by decide +kernel
theorem dX10_tenthOf_10 : decode cX10_tenthOf 10 = .ok (.iconst 0, 1) := by decide +kernel
theorem dX10_tenthOf_11 : decode cX10_tenthOf 11 = .ok (.iaload, 1) := by decide +kernel
theorem dX10_tenthOf_12 : decode cX10_tenthOf 12 = .ok (.imul, 1) := by decide +kernel
theorem dX10_tenthOf_13 : decode cX10_tenthOf 13 = .ok (.bipush 100, 2) := by decide +kernel
theorem dX10_tenthOf_15 : decode cX10_tenthOf 15 = .ok (.idiv, 1) := by decide +kernel
theorem dX10_tenthOf_16 : decode cX10_tenthOf 16 = .ok (.istore_n 3, 1) := by decide +kernel
theorem dX10_tenthOf_17 : decode cX10_tenthOf 17 = .ok (.aload_n 0, 1) := by decide +kernel
theorem dX10_tenthOf_18 : decode cX10_tenthOf 18 = .ok (.getfield 34, 3) := by decide +kernel
theorem dX10_tenthOf_21 : decode cX10_tenthOf 21 = .ok (.iload_n 1, 1) := by decide +kernel
theorem dX10_tenthOf_22 : decode cX10_tenthOf 22 = .ok (.iaload, 1) := by decide +kernel
theorem dX10_tenthOf_23 : decode cX10_tenthOf 23 = .ok (.aload_n 0, 1) := by decide +kernel
theorem dX10_tenthOf_24 : decode cX10_tenthOf 24 = .ok (.getfield 37, 3) := by decide +kernel
theorem dX10_tenthOf_27 : decode cX10_tenthOf 27 = .ok (.iload_n 1, 1) := by decide +kernel
theorem dX10_tenthOf_28 : decode cX10_tenthOf 28 = .ok (.iaload, 1) := by decide +kernel
theorem dX10_tenthOf_29 : decode cX10_tenthOf 29 = .ok (.isub, 1) := by decide +kernel
theorem dX10_tenthOf_30 : decode cX10_tenthOf 30 = .ok (.istore 4, 2) := by decide +kernel
theorem dX10_tenthOf_32 : decode cX10_tenthOf 32 = .ok (.iload_n 3, 1) := by decide +kernel
theorem dX10_tenthOf_33 : decode cX10_tenthOf 33 = .ok (.iload 4, 2) := by decide +kernel
theorem dX10_tenthOf_35 : decode cX10_tenthOf 35 = .ok (.if_icmp .ge 7, 3) := by decide +kernel
theorem dX10_tenthOf_38 : decode cX10_tenthOf 38 = .ok (.iload_n 3, 1) := by decide +kernel
theorem dX10_tenthOf_39 : decode cX10_tenthOf 39 = .ok (.goto 5, 3) := by decide +kernel
theorem dX10_tenthOf_42 : decode cX10_tenthOf 42 = .ok (.iload 4, 2) := by decide +kernel
theorem dX10_tenthOf_44 : decode cX10_tenthOf 44 = .ok (.ireturn, 1) := by decide +kernel
def fX10_readsAll_L50 : Nat → Int32 → Int32 → St → Option St
  | 0, _, _, _ => none
  | n + 1, y1, y2, st => if y2 = 0 then (nm (ui st 500 29 (0 : Int32)) (fun s2 => some s2)) else (br (fX10_duchyClause y1 st) (fun s3 => nm (y1 + (1 : Int32)) (fun x4 => bw (fX10_goesOn s3) (fun x7 s6 => (fX10_readsAll_L50 n) x4 x7 s6))))
set_option maxRecDepth 100000 in
theorem wX10_readsAll_L50 {p : Program} {l : Launch} {e : Env} {s : State} {m : MethodId} {args : Array Value} {below : List Frame} {meth : Method} {c : Code} {E : Ev} (hL : ∀ k, fxM k = true → k ∈ eL E) {sz : Nat} {res : St} (X : CX p s m args c E RX10 cX10_readsAll 3 (Af E sz)) (hr : meth.sig.returnType = none) (hlk : meth.locks = false) : ∀ (n : Nat) (y1 : Int32) (y2 : Int32) (st : St) (H : Heap) (locs : List Loc), fX10_readsAll_L50   n y1 y2 st = some res → Gd E st (Af E sz) s H locs → ∀ ls : Array Slot, lv_has ls 3 [(0, .ref (eq E 500)), (1, .int y1), (2, .int y2)] → W p l e (rmk 7) s m args below meth c H locs 0 0 (MQ below (QWv E res sz) args s 0 0 (Af E sz)) (F0 m 50 ls []) := by
  have hx := X.1.1
  have hb := X.1.2.1
  intro n
  induction n with
  | zero =>
    intro y1 y2 st H locs hf G ls hl
    cases (show (none : Option St) = some res from hf)
  | succ n ih =>
    intro y1 y2 st H locs hf G ls hl
    rw [fX10_readsAll_L50] at hf
    refine lv_iload_n hx hb dX10_readsAll_50 rfl (lv_at hl 2 rfl) ?_
    refine lv_if_eq (tgt := 70) hx hb dX10_readsAll_51 (by decide) (fun c1 => ?_) (fun c1 => ?_)
    · have hf := it_t hf c1
      refine lv_aload_n hx hb dX10_readsAll_70 rfl (lv_at hl 0 rfl) ?_
      refine lv_iconst (v := (0 : Int32)) hx hb dX10_readsAll_71 (by decide) ?_
      refine pf10 X G (hL 500 rfl) rfl 29 (by decide) ps10_29 uio kf_X10_160 iwX10 rfl (ty := .int) (by decide +kernel) rfl rfl dX10_readsAll_72 (fun s2 es2 H locs G => ?_)
      have hf := nm_s hf s2 es2
      exact rtWv X hlk G hr (so_i hf) dX10_readsAll_75
    · have hf := it_f hf c1
      refine lv_aload_n hx hb dX10_readsAll_54 rfl (lv_at hl 0 rfl) ?_
      refine lv_iload_n hx hb dX10_readsAll_55 rfl (lv_at hl 1 rfl) ?_
      obtain ⟨s3, h2, hf⟩ := br_s hf
      refine cVWv (As := [.int y1]) (rest := []) X G kc_X10_314 (tX10_duchyClause l E st _ hL  y1 h2) (rcv X G (hL 500 rfl) (cO10 rfl) rfl) rfl rfl (rmk_le (by omega) (by decide)) rfl hl.1 rfl (Nat.le_of_ble_eq_true rfl) dX10_readsAll_56 ⟨Nat.zero_le _, Nat.zero_le _⟩ (fun H locs G => ?_)
      obtain ⟨x4, ex4⟩ : ∃ y : Int32, y = (y1 + (1 : Int32)) := ⟨_, rfl⟩
      have hf := nm_s hf x4 ex4
      refine lv_iinc (k := 1) (v := x4) (lv' := [(1, .int x4), (0, .ref (eq E 500)), (2, .int y2)]) hx hb dX10_readsAll_59 hl rfl (by rw [ex4]; rfl) (by decide) rfl (fun ls hl => ?_)
      refine lv_aload_n hx hb dX10_readsAll_62 rfl (lv_at hl 1 rfl) ?_
      obtain ⟨x7, s6, h5, hf⟩ := bw_s hf
      refine cVWi (As := []) (rest := []) X G kc_X10_317 (tX10_goesOn l E s3 _ hL   h5) (rcv X G (hL 500 rfl) (cO10 rfl) rfl) rfl rfl (rmk_le (by omega) (by decide)) rfl hl.1 rfl (Nat.le_of_ble_eq_true rfl) dX10_readsAll_63 ⟨Nat.zero_le _, Nat.zero_le _⟩ (fun H locs G => ?_)
      refine lv_istore_n (lv' := [(2, .int x7), (1, .int x4), (0, .ref (eq E 500))]) hx hb dX10_readsAll_66 rfl hl (by decide) rfl (fun ls hl => ?_)
      refine lv_goto (tgt := 50) hx hb dX10_readsAll_67 (by decide) ?_
      exact ih x4 x7 s6 _ _ hf G _ (lv_sub hl [2, 1, 0] rfl)
def fX10_readsAll_L27 : Nat → Int32 → St → Option St
  | 0, _, _ => none
  | n + 1, y1, st => if (100 : Int32) ≤ y1 then (fX10_readsAll_L50 10000 (0 : Int32) (1 : Int32) st) else (gd (ix y1 100) (nm (ui st 528 y1.toNatClampNeg (0 : Int32)) (fun s3 => nm (y1 + (1 : Int32)) (fun x4 => (fX10_readsAll_L27 n) x4 s3))))
set_option maxRecDepth 100000 in
theorem wX10_readsAll_L27 {p : Program} {l : Launch} {e : Env} {s : State} {m : MethodId} {args : Array Value} {below : List Frame} {meth : Method} {c : Code} {E : Ev} (hL : ∀ k, fxM k = true → k ∈ eL E) {sz : Nat} {res : St} (X : CX p s m args c E RX10 cX10_readsAll 3 (Af E sz)) (hr : meth.sig.returnType = none) (hlk : meth.locks = false) : ∀ (n : Nat) (y1 : Int32) (st : St) (H : Heap) (locs : List Loc), fX10_readsAll_L27   n y1 st = some res → Gd E st (Af E sz) s H locs → ∀ ls : Array Slot, lv_has ls 3 [(0, .ref (eq E 500)), (1, .int y1)] → W p l e (rmk 7) s m args below meth c H locs 0 0 (MQ below (QWv E res sz) args s 0 0 (Af E sz)) (F0 m 27 ls []) := by
  have hx := X.1.1
  have hb := X.1.2.1
  intro n
  induction n with
  | zero =>
    intro y1 st H locs hf G ls hl
    cases (show (none : Option St) = some res from hf)
  | succ n ih =>
    intro y1 st H locs hf G ls hl
    rw [fX10_readsAll_L27] at hf
    refine lv_iload_n hx hb dX10_readsAll_27 rfl (lv_at hl 1 rfl) ?_
    refine lv_bipush (v := (100 : Int32)) hx hb dX10_readsAll_28 (by decide) ?_
    refine lv_icmp_ge (tgt := 46) hx hb dX10_readsAll_30 (by decide) (fun c1 => ?_) (fun c1 => ?_)
    · have hf := it_t hf c1
      refine lv_iconst (v := (0 : Int32)) hx hb dX10_readsAll_46 (by decide) ?_
      refine lv_istore_n (lv' := [(1, .int (0 : Int32)), (0, .ref (eq E 500))]) hx hb dX10_readsAll_47 rfl hl (by decide) rfl (fun ls hl => ?_)
      refine lv_iconst (v := (1 : Int32)) hx hb dX10_readsAll_48 (by decide) ?_
      refine lv_istore_n (lv' := [(2, .int (1 : Int32)), (1, .int (0 : Int32)), (0, .ref (eq E 500))]) hx hb dX10_readsAll_49 rfl hl (by decide) rfl (fun ls hl => ?_)
      exact wX10_readsAll_L50 hL X hr hlk 10000 (0 : Int32) (1 : Int32) st _ _ hf G _ (lv_sub hl [2, 1, 0] rfl)
    · have hf := it_f hf c1
      refine lv_aload_n hx hb dX10_readsAll_33 rfl (lv_at hl 0 rfl) ?_
      refine gf10 X G (hL 500 rfl) rfl 27 (by decide) rfl kf_X10_88 iwX10 dX10_readsAll_34 ?_
      refine lv_iload_n hx hb dX10_readsAll_37 rfl (lv_at hl 1 rfl) ?_
      refine lv_iconst (v := (0 : Int32)) hx hb dX10_readsAll_38 (by decide) ?_
      obtain ⟨h2, hf⟩ := gd_s hf
      refine ia_st (k := 528) (n := 100) X G (hL 528 rfl) rfl (by decide) (ix_in h2) dX10_readsAll_39 (fun s3 es3 H locs G => ?_)
      have hf := nm_s hf s3 es3
      obtain ⟨x4, ex4⟩ : ∃ y : Int32, y = (y1 + (1 : Int32)) := ⟨_, rfl⟩
      have hf := nm_s hf x4 ex4
      refine lv_iinc (k := 1) (v := x4) (lv' := [(1, .int x4), (0, .ref (eq E 500))]) hx hb dX10_readsAll_40 hl rfl (by rw [ex4]; rfl) (by decide) rfl (fun ls hl => ?_)
      refine lv_goto (tgt := 27) hx hb dX10_readsAll_43 (by decide) ?_
      exact ih x4 s3 _ _ hf G _ (lv_sub hl [1, 0] rfl)
def fX10_readsAll_L6 : Nat → Int32 → St → Option St
  | 0, _, _ => none
  | n + 1, y1, st => if (6 : Int32) < y1 then (fX10_readsAll_L27 10000 (0 : Int32) st) else (gd (ix y1 7) (nm (ui st 520 y1.toNatClampNeg (0 : Int32)) (fun s3 => nm (y1 + (1 : Int32)) (fun x4 => (fX10_readsAll_L6 n) x4 s3))))
set_option maxRecDepth 100000 in
theorem wX10_readsAll_L6 {p : Program} {l : Launch} {e : Env} {s : State} {m : MethodId} {args : Array Value} {below : List Frame} {meth : Method} {c : Code} {E : Ev} (hL : ∀ k, fxM k = true → k ∈ eL E) {sz : Nat} {res : St} (X : CX p s m args c E RX10 cX10_readsAll 3 (Af E sz)) (hr : meth.sig.returnType = none) (hlk : meth.locks = false) : ∀ (n : Nat) (y1 : Int32) (st : St) (H : Heap) (locs : List Loc), fX10_readsAll_L6   n y1 st = some res → Gd E st (Af E sz) s H locs → ∀ ls : Array Slot, lv_has ls 3 [(0, .ref (eq E 500)), (1, .int y1)] → W p l e (rmk 7) s m args below meth c H locs 0 0 (MQ below (QWv E res sz) args s 0 0 (Af E sz)) (F0 m 6 ls []) := by
  have hx := X.1.1
  have hb := X.1.2.1
  intro n
  induction n with
  | zero =>
    intro y1 st H locs hf G ls hl
    cases (show (none : Option St) = some res from hf)
  | succ n ih =>
    intro y1 st H locs hf G ls hl
    rw [fX10_readsAll_L6] at hf
    refine lv_iload_n hx hb dX10_readsAll_6 rfl (lv_at hl 1 rfl) ?_
    refine lv_bipush (v := (6 : Int32)) hx hb dX10_readsAll_7 (by decide) ?_
    refine lv_icmp_gt (tgt := 25) hx hb dX10_readsAll_9 (by decide) (fun c1 => ?_) (fun c1 => ?_)
    · have hf := it_t hf c1
      refine lv_iconst (v := (0 : Int32)) hx hb dX10_readsAll_25 (by decide) ?_
      refine lv_istore_n (lv' := [(1, .int (0 : Int32)), (0, .ref (eq E 500))]) hx hb dX10_readsAll_26 rfl hl (by decide) rfl (fun ls hl => ?_)
      exact wX10_readsAll_L27 hL X hr hlk 10000 (0 : Int32) st _ _ hf G _ (lv_sub hl [1, 0] rfl)
    · have hf := it_f hf c1
      refine lv_aload_n hx hb dX10_readsAll_12 rfl (lv_at hl 0 rfl) ?_
      refine gf10 X G (hL 500 rfl) rfl 19 (by decide) rfl kf_X10_64 iwX10 dX10_readsAll_13 ?_
      refine lv_iload_n hx hb dX10_readsAll_16 rfl (lv_at hl 1 rfl) ?_
      refine lv_iconst (v := (0 : Int32)) hx hb dX10_readsAll_17 (by decide) ?_
      obtain ⟨h2, hf⟩ := gd_s hf
      refine ia_st (k := 520) (n := 7) X G (hL 520 rfl) rfl (by decide) (ix_in h2) dX10_readsAll_18 (fun s3 es3 H locs G => ?_)
      have hf := nm_s hf s3 es3
      obtain ⟨x4, ex4⟩ : ∃ y : Int32, y = (y1 + (1 : Int32)) := ⟨_, rfl⟩
      have hf := nm_s hf x4 ex4
      refine lv_iinc (k := 1) (v := x4) (lv' := [(1, .int x4), (0, .ref (eq E 500))]) hx hb dX10_readsAll_19 hl rfl (by rw [ex4]; rfl) (by decide) rfl (fun ls hl => ?_)
      refine lv_goto (tgt := 6) hx hb dX10_readsAll_22 (by decide) ?_
      exact ih x4 s3 _ _ hf G _ (lv_sub hl [1, 0] rfl)
def fX10_readsAll (st : St) : Option St := br (fX10_starts st) (fun s2 => fX10_readsAll_L6 10000 (0 : Int32) s2)
set_option maxRecDepth 100000 in
theorem tX10_readsAll (l : Launch) (E : Ev) (st : St) (sz : Nat) (hL : ∀ k, fxM k = true → k ∈ eL E)  {res : St} (hf : fX10_readsAll   st = some res) : Met l yX10_readsAll (.code yX10_readsAll cX10_readsAll 3 none :: uW) (rmk 7) (va_Pc [.ref (eq E 500)] (Pre E st sz)) (QWv E res sz) 0 0 (Af E sz) := by
  refine Met_in (by decide) (Nat.le_of_ble_eq_true rfl) ?_
  intro p e s m below meth c X hr hlk hz G ls hl
  have hx := X.1.1
  have hb := X.1.2.1
  have hl : lv_has ls 3 [(0, .ref (eq E 500))] := hl
  unfold fX10_readsAll at hf
  refine lv_aload_n hx hb dX10_readsAll_0 rfl (lv_at hl 0 rfl) ?_
  obtain ⟨s2, h1, hf⟩ := br_s hf
  refine cVWv (As := []) (rest := []) X G kc_X10_311 (tX10_starts l E st _ hL   h1) (rcv X G (hL 500 rfl) (cO10 rfl) rfl) rfl rfl (rmk_le (by omega) (by decide)) rfl hl.1 rfl (Nat.le_of_ble_eq_true rfl) dX10_readsAll_1 ⟨Nat.zero_le _, Nat.zero_le _⟩ (fun H locs G => ?_)
  refine lv_iconst (v := (0 : Int32)) hx hb dX10_readsAll_4 (by decide) ?_
  refine lv_istore_n (lv' := [(1, .int (0 : Int32)), (0, .ref (eq E 500))]) hx hb dX10_readsAll_5 rfl hl (by decide) rfl (fun ls hl => ?_)
  exact wX10_readsAll_L6 hL X hr hlk 10000 (0 : Int32) s2 _ _ hf G _ (lv_sub hl [1, 0] rfl)
def fX10_begins_L91 : Nat → Int32 → St → Option St
  | 0, _, _ => none
  | n + 1, y1, st => if (3 : Int32) ≤ y1 then (some st) else (gd (ix y1 3) (nm (ui st 511 y1.toNatClampNeg (0 : Int32)) (fun s3 => nm (y1 + (1 : Int32)) (fun x4 => (fX10_begins_L91 n) x4 s3))))
set_option maxRecDepth 100000 in
theorem wX10_begins_L91 {p : Program} {l : Launch} {e : Env} {s : State} {m : MethodId} {args : Array Value} {below : List Frame} {meth : Method} {c : Code} {E : Ev} (hL : ∀ k, fxM k = true → k ∈ eL E) {sz : Nat} {res : St} (X : CX p s m args c E RX10 cX10_begins 2 (Af E sz)) (hr : meth.sig.returnType = none) (hlk : meth.locks = false) : ∀ (n : Nat) (y1 : Int32) (st : St) (H : Heap) (locs : List Loc), fX10_begins_L91   n y1 st = some res → Gd E st (Af E sz) s H locs → ∀ ls : Array Slot, lv_has ls 2 [(0, .ref (eq E 500)), (1, .int y1)] → W p l e (rmk 1) s m args below meth c H locs 0 0 (MQ below (QWv E res sz) args s 0 0 (Af E sz)) (F0 m 91 ls []) := by
  have hx := X.1.1
  have hb := X.1.2.1
  intro n
  induction n with
  | zero =>
    intro y1 st H locs hf G ls hl
    cases (show (none : Option St) = some res from hf)
  | succ n ih =>
    intro y1 st H locs hf G ls hl
    rw [fX10_begins_L91] at hf
    refine lv_iload_n hx hb dX10_begins_91 rfl (lv_at hl 1 rfl) ?_
    refine lv_iconst (v := (3 : Int32)) hx hb dX10_begins_92 (by decide) ?_
    refine lv_icmp_ge (tgt := 109) hx hb dX10_begins_93 (by decide) (fun c1 => ?_) (fun c1 => ?_)
    · have hf := it_t hf c1
      exact rtWv X hlk G hr (so_i hf) dX10_begins_109
    · have hf := it_f hf c1
      refine lv_aload_n hx hb dX10_begins_96 rfl (lv_at hl 0 rfl) ?_
      refine gf10 X G (hL 500 rfl) rfl 10 (by decide) rfl kf_X10_37 iwX10 dX10_begins_97 ?_
      refine lv_iload_n hx hb dX10_begins_100 rfl (lv_at hl 1 rfl) ?_
      refine lv_iconst (v := (0 : Int32)) hx hb dX10_begins_101 (by decide) ?_
      obtain ⟨h2, hf⟩ := gd_s hf
      refine ia_st (k := 511) (n := 3) X G (hL 511 rfl) rfl (by decide) (ix_in h2) dX10_begins_102 (fun s3 es3 H locs G => ?_)
      have hf := nm_s hf s3 es3
      obtain ⟨x4, ex4⟩ : ∃ y : Int32, y = (y1 + (1 : Int32)) := ⟨_, rfl⟩
      have hf := nm_s hf x4 ex4
      refine lv_iinc (k := 1) (v := x4) (lv' := [(1, .int x4), (0, .ref (eq E 500))]) hx hb dX10_begins_103 hl rfl (by rw [ex4]; rfl) (by decide) rfl (fun ls hl => ?_)
      refine lv_goto (tgt := 91) hx hb dX10_begins_106 (by decide) ?_
      exact ih x4 s3 _ _ hf G _ (lv_sub hl [1, 0] rfl)
def fX10_begins_L70 : Nat → Int32 → St → Option St
  | 0, _, _ => none
  | n + 1, y1, st => if (8 : Int32) ≤ y1 then (fX10_begins_L91 10000 (0 : Int32) st) else (gd (ix y1 8) (nm (ui st 508 y1.toNatClampNeg (-1 : Int32)) (fun s3 => nm (y1 + (1 : Int32)) (fun x4 => (fX10_begins_L70 n) x4 s3))))
set_option maxRecDepth 100000 in
theorem wX10_begins_L70 {p : Program} {l : Launch} {e : Env} {s : State} {m : MethodId} {args : Array Value} {below : List Frame} {meth : Method} {c : Code} {E : Ev} (hL : ∀ k, fxM k = true → k ∈ eL E) {sz : Nat} {res : St} (X : CX p s m args c E RX10 cX10_begins 2 (Af E sz)) (hr : meth.sig.returnType = none) (hlk : meth.locks = false) : ∀ (n : Nat) (y1 : Int32) (st : St) (H : Heap) (locs : List Loc), fX10_begins_L70   n y1 st = some res → Gd E st (Af E sz) s H locs → ∀ ls : Array Slot, lv_has ls 2 [(0, .ref (eq E 500)), (1, .int y1)] → W p l e (rmk 1) s m args below meth c H locs 0 0 (MQ below (QWv E res sz) args s 0 0 (Af E sz)) (F0 m 70 ls []) := by
  have hx := X.1.1
  have hb := X.1.2.1
  intro n
  induction n with
  | zero =>
    intro y1 st H locs hf G ls hl
    cases (show (none : Option St) = some res from hf)
  | succ n ih =>
    intro y1 st H locs hf G ls hl
    rw [fX10_begins_L70] at hf
    refine lv_iload_n hx hb dX10_begins_70 rfl (lv_at hl 1 rfl) ?_
    refine lv_bipush (v := (8 : Int32)) hx hb dX10_begins_71 (by decide) ?_
    refine lv_icmp_ge (tgt := 89) hx hb dX10_begins_73 (by decide) (fun c1 => ?_) (fun c1 => ?_)
    · have hf := it_t hf c1
      refine lv_iconst (v := (0 : Int32)) hx hb dX10_begins_89 (by decide) ?_
      refine lv_istore_n (lv' := [(1, .int (0 : Int32)), (0, .ref (eq E 500))]) hx hb dX10_begins_90 rfl hl (by decide) rfl (fun ls hl => ?_)
      exact wX10_begins_L91 hL X hr hlk 10000 (0 : Int32) st _ _ hf G _ (lv_sub hl [1, 0] rfl)
    · have hf := it_f hf c1
      refine lv_aload_n hx hb dX10_begins_76 rfl (lv_at hl 0 rfl) ?_
      refine gf10 X G (hL 500 rfl) rfl 7 (by decide) rfl kf_X10_28 iwX10 dX10_begins_77 ?_
      refine lv_iload_n hx hb dX10_begins_80 rfl (lv_at hl 1 rfl) ?_
      refine lv_iconst (v := (-1 : Int32)) hx hb dX10_begins_81 (by decide) ?_
      obtain ⟨h2, hf⟩ := gd_s hf
      refine ia_st (k := 508) (n := 8) X G (hL 508 rfl) rfl (by decide) (ix_in h2) dX10_begins_82 (fun s3 es3 H locs G => ?_)
      have hf := nm_s hf s3 es3
      obtain ⟨x4, ex4⟩ : ∃ y : Int32, y = (y1 + (1 : Int32)) := ⟨_, rfl⟩
      have hf := nm_s hf x4 ex4
      refine lv_iinc (k := 1) (v := x4) (lv' := [(1, .int x4), (0, .ref (eq E 500))]) hx hb dX10_begins_83 hl rfl (by rw [ex4]; rfl) (by decide) rfl (fun ls hl => ?_)
      refine lv_goto (tgt := 70) hx hb dX10_begins_86 (by decide) ?_
      exact ih x4 s3 _ _ hf G _ (lv_sub hl [1, 0] rfl)
def fX10_begins (st : St) : Option St := br (fX10_copies 516 8 503 8 st) (fun s2 => br (fX10_copies 517 8 504 8 s2) (fun s4 => br (fX10_copies 518 8 506 8 s4) (fun s6 => br (fX10_copies 519 3 509 3 s6) (fun s8 => nm (ui s8 502 6 (0 : Int32)) (fun s10 => nm (ui s10 502 7 (0 : Int32)) (fun s12 => nm (ui s12 502 8 (0 : Int32)) (fun s14 => fX10_begins_L70 10000 (0 : Int32) s14)))))))
set_option maxRecDepth 100000 in
theorem tX10_begins (l : Launch) (E : Ev) (st : St) (sz : Nat) (hL : ∀ k, fxM k = true → k ∈ eL E)  {res : St} (hf : fX10_begins   st = some res) : Met l yX10_begins (.code yX10_begins cX10_begins 2 none :: uW) (rmk 1) (va_Pc [.ref (eq E 500)] (Pre E st sz)) (QWv E res sz) 0 0 (Af E sz) := by
  refine Met_in (by decide) (Nat.le_of_ble_eq_true rfl) ?_
  intro p e s m below meth c X hr hlk hz G ls hl
  have hx := X.1.1
  have hb := X.1.2.1
  have hl : lv_has ls 2 [(0, .ref (eq E 500))] := hl
  unfold fX10_begins at hf
  refine lv_aload_n hx hb dX10_begins_0 rfl (lv_at hl 0 rfl) ?_
  refine gf10 X G (hL 500 rfl) rfl 15 (by decide) rfl kf_X10_52 iwX10 dX10_begins_1 ?_
  refine lv_aload_n hx hb dX10_begins_4 rfl (lv_at hl 0 rfl) ?_
  refine gf10 X G (hL 500 rfl) rfl 2 (by decide) rfl kf_X10_13 iwX10 dX10_begins_5 ?_
  obtain ⟨s2, h1, hf⟩ := br_s hf
  refine cSWv (As := [.ref (eq E 516), .ref (eq E 503)]) (rest := []) X G kc_X10_320 (tX10_copies l E st _ hL (hL 516 rfl) rfl (by decide) (hL 503 rfl) rfl (by decide)  h1) rfl rfl (rmk_le (by omega) (by decide)) rfl hl.1 rfl (Nat.le_of_ble_eq_true rfl) dX10_begins_8 ⟨Nat.zero_le _, Nat.zero_le _⟩ (fun H locs G => ?_)
  refine lv_aload_n hx hb dX10_begins_11 rfl (lv_at hl 0 rfl) ?_
  refine gf10 X G (hL 500 rfl) rfl 16 (by decide) rfl kf_X10_55 iwX10 dX10_begins_12 ?_
  refine lv_aload_n hx hb dX10_begins_15 rfl (lv_at hl 0 rfl) ?_
  refine gf10 X G (hL 500 rfl) rfl 3 (by decide) rfl kf_X10_16 iwX10 dX10_begins_16 ?_
  obtain ⟨s4, h3, hf⟩ := br_s hf
  refine cSWv (As := [.ref (eq E 517), .ref (eq E 504)]) (rest := []) X G kc_X10_320 (tX10_copies l E s2 _ hL (hL 517 rfl) rfl (by decide) (hL 504 rfl) rfl (by decide)  h3) rfl rfl (rmk_le (by omega) (by decide)) rfl hl.1 rfl (Nat.le_of_ble_eq_true rfl) dX10_begins_19 ⟨Nat.zero_le _, Nat.zero_le _⟩ (fun H locs G => ?_)
  refine lv_aload_n hx hb dX10_begins_22 rfl (lv_at hl 0 rfl) ?_
  refine gf10 X G (hL 500 rfl) rfl 17 (by decide) rfl kf_X10_58 iwX10 dX10_begins_23 ?_
  refine lv_aload_n hx hb dX10_begins_26 rfl (lv_at hl 0 rfl) ?_
  refine gf10 X G (hL 500 rfl) rfl 5 (by decide) rfl kf_X10_22 iwX10 dX10_begins_27 ?_
  obtain ⟨s6, h5, hf⟩ := br_s hf
  refine cSWv (As := [.ref (eq E 518), .ref (eq E 506)]) (rest := []) X G kc_X10_320 (tX10_copies l E s4 _ hL (hL 518 rfl) rfl (by decide) (hL 506 rfl) rfl (by decide)  h5) rfl rfl (rmk_le (by omega) (by decide)) rfl hl.1 rfl (Nat.le_of_ble_eq_true rfl) dX10_begins_30 ⟨Nat.zero_le _, Nat.zero_le _⟩ (fun H locs G => ?_)
  refine lv_aload_n hx hb dX10_begins_33 rfl (lv_at hl 0 rfl) ?_
  refine gf10 X G (hL 500 rfl) rfl 18 (by decide) rfl kf_X10_61 iwX10 dX10_begins_34 ?_
  refine lv_aload_n hx hb dX10_begins_37 rfl (lv_at hl 0 rfl) ?_
  refine gf10 X G (hL 500 rfl) rfl 8 (by decide) rfl kf_X10_31 iwX10 dX10_begins_38 ?_
  obtain ⟨s8, h7, hf⟩ := br_s hf
  refine cSWv (As := [.ref (eq E 519), .ref (eq E 509)]) (rest := []) X G kc_X10_320 (tX10_copies l E s6 _ hL (hL 519 rfl) rfl (by decide) (hL 509 rfl) rfl (by decide)  h7) rfl rfl (rmk_le (by omega) (by decide)) rfl hl.1 rfl (Nat.le_of_ble_eq_true rfl) dX10_begins_41 ⟨Nat.zero_le _, Nat.zero_le _⟩ (fun H locs G => ?_)
  refine lv_aload_n hx hb dX10_begins_44 rfl (lv_at hl 0 rfl) ?_
  refine gf10 X G (hL 500 rfl) rfl 1 (by decide) rfl kf_X10_9 iwX10 dX10_begins_45 ?_
  refine lv_bipush (v := (6 : Int32)) hx hb dX10_begins_48 (by decide) ?_
  refine lv_iconst (v := (0 : Int32)) hx hb dX10_begins_50 (by decide) ?_
  refine ia_stc (k := 502) (n := 12) X G (hL 502 rfl) rfl (by decide) 6 (by decide) dX10_begins_51 (fun s10 es10 H locs G => ?_)
  have hf := nm_s hf s10 es10
  refine lv_aload_n hx hb dX10_begins_52 rfl (lv_at hl 0 rfl) ?_
  refine gf10 X G (hL 500 rfl) rfl 1 (by decide) rfl kf_X10_9 iwX10 dX10_begins_53 ?_
  refine lv_bipush (v := (7 : Int32)) hx hb dX10_begins_56 (by decide) ?_
  refine lv_iconst (v := (0 : Int32)) hx hb dX10_begins_58 (by decide) ?_
  refine ia_stc (k := 502) (n := 12) X G (hL 502 rfl) rfl (by decide) 7 (by decide) dX10_begins_59 (fun s12 es12 H locs G => ?_)
  have hf := nm_s hf s12 es12
  refine lv_aload_n hx hb dX10_begins_60 rfl (lv_at hl 0 rfl) ?_
  refine gf10 X G (hL 500 rfl) rfl 1 (by decide) rfl kf_X10_9 iwX10 dX10_begins_61 ?_
  refine lv_bipush (v := (8 : Int32)) hx hb dX10_begins_64 (by decide) ?_
  refine lv_iconst (v := (0 : Int32)) hx hb dX10_begins_66 (by decide) ?_
  refine ia_stc (k := 502) (n := 12) X G (hL 502 rfl) rfl (by decide) 8 (by decide) dX10_begins_67 (fun s14 es14 H locs G => ?_)
  have hf := nm_s hf s14 es14
  refine lv_iconst (v := (0 : Int32)) hx hb dX10_begins_68 (by decide) ?_
  refine lv_istore_n (lv' := [(1, .int (0 : Int32)), (0, .ref (eq E 500))]) hx hb dX10_begins_69 rfl hl (by decide) rfl (fun ls hl => ?_)
  exact wX10_begins_L70 hL X hr hlk 10000 (0 : Int32) s14 _ _ hf G _ (lv_sub hl [1, 0] rfl)
def fX10_duchy_L21 : Nat → Int32 → St → Option (Int32 × St)
  | 0, _, _ => none
  | n + 1, y1, st => if (10 : Int32) ≤ y1 then (br (fX10_copies 521 8 516 8 st) (fun s3 => br (fX10_copies 522 8 517 8 s3) (fun s5 => br (fX10_copies 523 8 505 8 s5) (fun s7 => br (fX10_copies 524 8 518 8 s7) (fun s9 => br (fX10_copies 525 8 507 8 s9) (fun s11 => br (fX10_copies 526 3 519 3 s11) (fun s13 => br (fX10_copies 527 3 510 3 s13) (fun s15 => br (fX10_copies 528 100 512 100 s15) (fun s17 => nm (ui s17 500 28 (1 : Int32)) (fun s18 => br (fX10_begins s18) (fun s20 => nm (ui s20 500 52 (0 : Int32)) (fun s21 => some ((s21.1 502 3), s21))))))))))))) else (if (6 : Int32) ≤ y1 then (gd (ix y1 12) (nm (ui st 502 y1.toNatClampNeg (0 : Int32)) (fun s4 => nm (y1 + (1 : Int32)) (fun x5 => (fX10_duchy_L21 n) x5 s4)))) else (gd (ix y1 7) (gd (ix y1 12) (nm (ui st 502 y1.toNatClampNeg (st.1 520 y1.toNatClampNeg)) (fun s5 => nm (y1 + (1 : Int32)) (fun x6 => (fX10_duchy_L21 n) x6 s5))))))
set_option maxRecDepth 100000 in
theorem wX10_duchy_L21 {p : Program} {l : Launch} {e : Env} {s : State} {m : MethodId} {args : Array Value} {below : List Frame} {meth : Method} {c : Code} {E : Ev} (hL : ∀ k, fxM k = true → k ∈ eL E) {sz : Nat} {res : (Int32 × St)} (X : CX p s m args c E RX10 cX10_duchy 2 (Af E sz)) (hr : meth.sig.returnType = (some .int)) (hlk : meth.locks = false) : ∀ (n : Nat) (y1 : Int32) (st : St) (H : Heap) (locs : List Loc), fX10_duchy_L21   n y1 st = some res → Gd E st (Af E sz) s H locs → ∀ ls : Array Slot, lv_has ls 2 [(0, .ref (eq E 500)), (1, .int y1)] → W p l e (rmk 8) s m args below meth c H locs 0 0 (MQ below (QWi E res.2 sz res.1) args s 0 0 (Af E sz)) (F0 m 21 ls []) := by
  have hx := X.1.1
  have hb := X.1.2.1
  intro n
  induction n with
  | zero =>
    intro y1 st H locs hf G ls hl
    cases (show (none : Option (Int32 × St)) = some res from hf)
  | succ n ih =>
    intro y1 st H locs hf G ls hl
    rw [fX10_duchy_L21] at hf
    refine lv_iload_n hx hb dX10_duchy_21 rfl (lv_at hl 1 rfl) ?_
    refine lv_bipush (v := (10 : Int32)) hx hb dX10_duchy_22 (by decide) ?_
    refine lv_icmp_ge (tgt := 55) hx hb dX10_duchy_24 (by decide) (fun c1 => ?_) (fun c1 => ?_)
    · have hf := it_t hf c1
      refine lv_aload_n hx hb dX10_duchy_55 rfl (lv_at hl 0 rfl) ?_
      refine gf10 X G (hL 500 rfl) rfl 20 (by decide) rfl kf_X10_67 iwX10 dX10_duchy_56 ?_
      refine lv_aload_n hx hb dX10_duchy_59 rfl (lv_at hl 0 rfl) ?_
      refine gf10 X G (hL 500 rfl) rfl 15 (by decide) rfl kf_X10_52 iwX10 dX10_duchy_60 ?_
      obtain ⟨s3, h2, hf⟩ := br_s hf
      refine cSWv (As := [.ref (eq E 521), .ref (eq E 516)]) (rest := []) X G kc_X10_320 (tX10_copies l E st _ hL (hL 521 rfl) rfl (by decide) (hL 516 rfl) rfl (by decide)  h2) rfl rfl (rmk_le (by omega) (by decide)) rfl hl.1 rfl (Nat.le_of_ble_eq_true rfl) dX10_duchy_63 ⟨Nat.zero_le _, Nat.zero_le _⟩ (fun H locs G => ?_)
      refine lv_aload_n hx hb dX10_duchy_66 rfl (lv_at hl 0 rfl) ?_
      refine gf10 X G (hL 500 rfl) rfl 21 (by decide) rfl kf_X10_70 iwX10 dX10_duchy_67 ?_
      refine lv_aload_n hx hb dX10_duchy_70 rfl (lv_at hl 0 rfl) ?_
      refine gf10 X G (hL 500 rfl) rfl 16 (by decide) rfl kf_X10_55 iwX10 dX10_duchy_71 ?_
      obtain ⟨s5, h4, hf⟩ := br_s hf
      refine cSWv (As := [.ref (eq E 522), .ref (eq E 517)]) (rest := []) X G kc_X10_320 (tX10_copies l E s3 _ hL (hL 522 rfl) rfl (by decide) (hL 517 rfl) rfl (by decide)  h4) rfl rfl (rmk_le (by omega) (by decide)) rfl hl.1 rfl (Nat.le_of_ble_eq_true rfl) dX10_duchy_74 ⟨Nat.zero_le _, Nat.zero_le _⟩ (fun H locs G => ?_)
      refine lv_aload_n hx hb dX10_duchy_77 rfl (lv_at hl 0 rfl) ?_
      refine gf10 X G (hL 500 rfl) rfl 22 (by decide) rfl kf_X10_73 iwX10 dX10_duchy_78 ?_
      refine lv_aload_n hx hb dX10_duchy_81 rfl (lv_at hl 0 rfl) ?_
      refine gf10 X G (hL 500 rfl) rfl 4 (by decide) rfl kf_X10_19 iwX10 dX10_duchy_82 ?_
      obtain ⟨s7, h6, hf⟩ := br_s hf
      refine cSWv (As := [.ref (eq E 523), .ref (eq E 505)]) (rest := []) X G kc_X10_320 (tX10_copies l E s5 _ hL (hL 523 rfl) rfl (by decide) (hL 505 rfl) rfl (by decide)  h6) rfl rfl (rmk_le (by omega) (by decide)) rfl hl.1 rfl (Nat.le_of_ble_eq_true rfl) dX10_duchy_85 ⟨Nat.zero_le _, Nat.zero_le _⟩ (fun H locs G => ?_)
      refine lv_aload_n hx hb dX10_duchy_88 rfl (lv_at hl 0 rfl) ?_
      refine gf10 X G (hL 500 rfl) rfl 23 (by decide) rfl kf_X10_76 iwX10 dX10_duchy_89 ?_
      refine lv_aload_n hx hb dX10_duchy_92 rfl (lv_at hl 0 rfl) ?_
      refine gf10 X G (hL 500 rfl) rfl 17 (by decide) rfl kf_X10_58 iwX10 dX10_duchy_93 ?_
      obtain ⟨s9, h8, hf⟩ := br_s hf
      refine cSWv (As := [.ref (eq E 524), .ref (eq E 518)]) (rest := []) X G kc_X10_320 (tX10_copies l E s7 _ hL (hL 524 rfl) rfl (by decide) (hL 518 rfl) rfl (by decide)  h8) rfl rfl (rmk_le (by omega) (by decide)) rfl hl.1 rfl (Nat.le_of_ble_eq_true rfl) dX10_duchy_96 ⟨Nat.zero_le _, Nat.zero_le _⟩ (fun H locs G => ?_)
      refine lv_aload_n hx hb dX10_duchy_99 rfl (lv_at hl 0 rfl) ?_
      refine gf10 X G (hL 500 rfl) rfl 24 (by decide) rfl kf_X10_79 iwX10 dX10_duchy_100 ?_
      refine lv_aload_n hx hb dX10_duchy_103 rfl (lv_at hl 0 rfl) ?_
      refine gf10 X G (hL 500 rfl) rfl 6 (by decide) rfl kf_X10_25 iwX10 dX10_duchy_104 ?_
      obtain ⟨s11, h10, hf⟩ := br_s hf
      refine cSWv (As := [.ref (eq E 525), .ref (eq E 507)]) (rest := []) X G kc_X10_320 (tX10_copies l E s9 _ hL (hL 525 rfl) rfl (by decide) (hL 507 rfl) rfl (by decide)  h10) rfl rfl (rmk_le (by omega) (by decide)) rfl hl.1 rfl (Nat.le_of_ble_eq_true rfl) dX10_duchy_107 ⟨Nat.zero_le _, Nat.zero_le _⟩ (fun H locs G => ?_)
      refine lv_aload_n hx hb dX10_duchy_110 rfl (lv_at hl 0 rfl) ?_
      refine gf10 X G (hL 500 rfl) rfl 25 (by decide) rfl kf_X10_82 iwX10 dX10_duchy_111 ?_
      refine lv_aload_n hx hb dX10_duchy_114 rfl (lv_at hl 0 rfl) ?_
      refine gf10 X G (hL 500 rfl) rfl 18 (by decide) rfl kf_X10_61 iwX10 dX10_duchy_115 ?_
      obtain ⟨s13, h12, hf⟩ := br_s hf
      refine cSWv (As := [.ref (eq E 526), .ref (eq E 519)]) (rest := []) X G kc_X10_320 (tX10_copies l E s11 _ hL (hL 526 rfl) rfl (by decide) (hL 519 rfl) rfl (by decide)  h12) rfl rfl (rmk_le (by omega) (by decide)) rfl hl.1 rfl (Nat.le_of_ble_eq_true rfl) dX10_duchy_118 ⟨Nat.zero_le _, Nat.zero_le _⟩ (fun H locs G => ?_)
      refine lv_aload_n hx hb dX10_duchy_121 rfl (lv_at hl 0 rfl) ?_
      refine gf10 X G (hL 500 rfl) rfl 26 (by decide) rfl kf_X10_85 iwX10 dX10_duchy_122 ?_
      refine lv_aload_n hx hb dX10_duchy_125 rfl (lv_at hl 0 rfl) ?_
      refine gf10 X G (hL 500 rfl) rfl 9 (by decide) rfl kf_X10_34 iwX10 dX10_duchy_126 ?_
      obtain ⟨s15, h14, hf⟩ := br_s hf
      refine cSWv (As := [.ref (eq E 527), .ref (eq E 510)]) (rest := []) X G kc_X10_320 (tX10_copies l E s13 _ hL (hL 527 rfl) rfl (by decide) (hL 510 rfl) rfl (by decide)  h14) rfl rfl (rmk_le (by omega) (by decide)) rfl hl.1 rfl (Nat.le_of_ble_eq_true rfl) dX10_duchy_129 ⟨Nat.zero_le _, Nat.zero_le _⟩ (fun H locs G => ?_)
      refine lv_aload_n hx hb dX10_duchy_132 rfl (lv_at hl 0 rfl) ?_
      refine gf10 X G (hL 500 rfl) rfl 27 (by decide) rfl kf_X10_88 iwX10 dX10_duchy_133 ?_
      refine lv_aload_n hx hb dX10_duchy_136 rfl (lv_at hl 0 rfl) ?_
      refine gf10 X G (hL 500 rfl) rfl 11 (by decide) rfl kf_X10_40 iwX10 dX10_duchy_137 ?_
      obtain ⟨s17, h16, hf⟩ := br_s hf
      refine cSWv (As := [.ref (eq E 528), .ref (eq E 512)]) (rest := []) X G kc_X10_320 (tX10_copies l E s15 _ hL (hL 528 rfl) rfl (by decide) (hL 512 rfl) rfl (by decide)  h16) rfl rfl (rmk_le (by omega) (by decide)) rfl hl.1 rfl (Nat.le_of_ble_eq_true rfl) dX10_duchy_140 ⟨Nat.zero_le _, Nat.zero_le _⟩ (fun H locs G => ?_)
      refine lv_aload_n hx hb dX10_duchy_143 rfl (lv_at hl 0 rfl) ?_
      refine lv_iconst (v := (1 : Int32)) hx hb dX10_duchy_144 (by decide) ?_
      refine pf10 X G (hL 500 rfl) rfl 28 (by decide) ps10_28 uio kf_X10_327 iwX10 rfl (ty := .boolean) (by decide +kernel) rfl rfl dX10_duchy_145 (fun s18 es18 H locs G => ?_)
      have hf := nm_s hf s18 es18
      refine lv_aload_n hx hb dX10_duchy_148 rfl (lv_at hl 0 rfl) ?_
      obtain ⟨s20, h19, hf⟩ := br_s hf
      refine cVWv (As := []) (rest := []) X G kc_X10_331 (tX10_begins l E s18 _ hL   h19) (rcv X G (hL 500 rfl) (cO10 rfl) rfl) rfl rfl (rmk_le (by omega) (by decide)) rfl hl.1 rfl (Nat.le_of_ble_eq_true rfl) dX10_duchy_149 ⟨Nat.zero_le _, Nat.zero_le _⟩ (fun H locs G => ?_)
      refine lv_aload_n hx hb dX10_duchy_152 rfl (lv_at hl 0 rfl) ?_
      refine lv_iconst (v := (0 : Int32)) hx hb dX10_duchy_153 (by decide) ?_
      refine pf10 X G (hL 500 rfl) rfl 52 (by decide) ps10_52 uio kf_X10_334 iwX10 rfl (ty := .int) (by decide +kernel) rfl rfl dX10_duchy_154 (fun s21 es21 H locs G => ?_)
      have hf := nm_s hf s21 es21
      refine lv_aload_n hx hb dX10_duchy_157 rfl (lv_at hl 0 rfl) ?_
      refine gf10 X G (hL 500 rfl) rfl 1 (by decide) rfl kf_X10_9 iwX10 dX10_duchy_158 ?_
      refine lv_iconst (v := (3 : Int32)) hx hb dX10_duchy_161 (by decide) ?_
      refine ia_ldc (k := 502) (n := 12) X G (hL 502 rfl) rfl (by decide) 3 (by decide) dX10_duchy_162 ?_
      exact rtWi X hlk G hr (so_i hf) dX10_duchy_163
    · have hf := it_f hf c1
      refine lv_aload_n hx hb dX10_duchy_27 rfl (lv_at hl 0 rfl) ?_
      refine gf10 X G (hL 500 rfl) rfl 1 (by decide) rfl kf_X10_9 iwX10 dX10_duchy_28 ?_
      refine lv_iload_n hx hb dX10_duchy_31 rfl (lv_at hl 1 rfl) ?_
      refine lv_iload_n hx hb dX10_duchy_32 rfl (lv_at hl 1 rfl) ?_
      refine lv_bipush (v := (6 : Int32)) hx hb dX10_duchy_33 (by decide) ?_
      refine lv_icmp_ge (tgt := 47) hx hb dX10_duchy_35 (by decide) (fun c2 => ?_) (fun c2 => ?_)
      · have hf := it_t hf c2
        refine lv_iconst (v := (0 : Int32)) hx hb dX10_duchy_47 (by decide) ?_
        obtain ⟨h3, hf⟩ := gd_s hf
        refine ia_st (k := 502) (n := 12) X G (hL 502 rfl) rfl (by decide) (ix_in h3) dX10_duchy_48 (fun s4 es4 H locs G => ?_)
        have hf := nm_s hf s4 es4
        obtain ⟨x5, ex5⟩ : ∃ y : Int32, y = (y1 + (1 : Int32)) := ⟨_, rfl⟩
        have hf := nm_s hf x5 ex5
        refine lv_iinc (k := 1) (v := x5) (lv' := [(1, .int x5), (0, .ref (eq E 500))]) hx hb dX10_duchy_49 hl rfl (by rw [ex5]; rfl) (by decide) rfl (fun ls hl => ?_)
        refine lv_goto (tgt := 21) hx hb dX10_duchy_52 (by decide) ?_
        exact ih x5 s4 _ _ hf G _ (lv_sub hl [1, 0] rfl)
      · have hf := it_f hf c2
        refine lv_aload_n hx hb dX10_duchy_38 rfl (lv_at hl 0 rfl) ?_
        refine gf10 X G (hL 500 rfl) rfl 19 (by decide) rfl kf_X10_64 iwX10 dX10_duchy_39 ?_
        refine lv_iload_n hx hb dX10_duchy_42 rfl (lv_at hl 1 rfl) ?_
        obtain ⟨h3, hf⟩ := gd_s hf
        refine ia_ld (k := 520) (n := 7) X G (hL 520 rfl) rfl (by decide) (ix_in h3) dX10_duchy_43 ?_
        refine lv_goto (tgt := 48) hx hb dX10_duchy_44 (by decide) ?_
        obtain ⟨h4, hf⟩ := gd_s hf
        refine ia_st (k := 502) (n := 12) X G (hL 502 rfl) rfl (by decide) (ix_in h4) dX10_duchy_48 (fun s5 es5 H locs G => ?_)
        have hf := nm_s hf s5 es5
        obtain ⟨x6, ex6⟩ : ∃ y : Int32, y = (y1 + (1 : Int32)) := ⟨_, rfl⟩
        have hf := nm_s hf x6 ex6
        refine lv_iinc (k := 1) (v := x6) (lv' := [(1, .int x6), (0, .ref (eq E 500))]) hx hb dX10_duchy_49 hl rfl (by rw [ex6]; rfl) (by decide) rfl (fun ls hl => ?_)
        refine lv_goto (tgt := 21) hx hb dX10_duchy_52 (by decide) ?_
        exact ih x6 s5 _ _ hf G _ (lv_sub hl [1, 0] rfl)
def fX10_duchy (st : St) : Option (Int32 × St) := br (fX10_readsAll st) (fun s2 => if (s2.1 500 31) ≤ 0 then (fX10_duchy_L21 10000 (0 : Int32) s2) else (some (((-2 : Int32) - (s2.1 500 31)), s2)))
set_option maxRecDepth 100000 in
theorem tX10_duchy (l : Launch) (E : Ev) (st : St) (sz : Nat) (hL : ∀ k, fxM k = true → k ∈ eL E)  {res : (Int32 × St)} (hf : fX10_duchy   st = some res) : Met l yX10_duchy (.code yX10_duchy cX10_duchy 2 (some .int) :: uW) (rmk 8) (va_Pc [.ref (eq E 500)] (Pre E st sz)) (QWi E res.2 sz res.1) 0 0 (Af E sz) := by
  refine Met_in (by decide) (Nat.le_of_ble_eq_true rfl) ?_
  intro p e s m below meth c X hr hlk hz G ls hl
  have hx := X.1.1
  have hb := X.1.2.1
  have hl : lv_has ls 2 [(0, .ref (eq E 500))] := hl
  unfold fX10_duchy at hf
  refine lv_aload_n hx hb dX10_duchy_0 rfl (lv_at hl 0 rfl) ?_
  obtain ⟨s2, h1, hf⟩ := br_s hf
  refine cVWv (As := []) (rest := []) X G kc_X10_324 (tX10_readsAll l E st _ hL   h1) (rcv X G (hL 500 rfl) (cO10 rfl) rfl) rfl rfl (rmk_le (by omega) (by decide)) rfl hl.1 rfl (Nat.le_of_ble_eq_true rfl) dX10_duchy_1 ⟨Nat.zero_le _, Nat.zero_le _⟩ (fun H locs G => ?_)
  refine lv_aload_n hx hb dX10_duchy_4 rfl (lv_at hl 0 rfl) ?_
  refine gf10 X G (hL 500 rfl) rfl 31 (by decide) rfl kf_X10_187 iwX10 dX10_duchy_5 ?_
  refine lv_if_le (tgt := 19) hx hb dX10_duchy_8 (by decide) (fun c3 => ?_) (fun c3 => ?_)
  · have hf := it_t hf c3
    refine lv_iconst (v := (0 : Int32)) hx hb dX10_duchy_19 (by decide) ?_
    refine lv_istore_n (lv' := [(1, .int (0 : Int32)), (0, .ref (eq E 500))]) hx hb dX10_duchy_20 rfl hl (by decide) rfl (fun ls hl => ?_)
    exact wX10_duchy_L21 hL X hr hlk 10000 (0 : Int32) s2 _ _ hf G _ (lv_sub hl [1, 0] rfl)
  · have hf := it_f hf c3
    refine lv_bipush (v := (-2 : Int32)) hx hb dX10_duchy_11 (by decide) ?_
    refine lv_aload_n hx hb dX10_duchy_13 rfl (lv_at hl 0 rfl) ?_
    refine gf10 X G (hL 500 rfl) rfl 31 (by decide) rfl kf_X10_187 iwX10 dX10_duchy_14 ?_
    refine lv_isub hx hb dX10_duchy_17 ?_
    exact rtWi X hlk G hr (so_i hf) dX10_duchy_18
def fX10_ruleClause_B104 (p1 : Int32) (y3 : Int32) (st : St) : Option St := gd (ix y3 72) (nm (ui st 546 y3.toNatClampNeg (st.1 500 34)) (fun s2 => some s2))
set_option maxRecDepth 100000 in
theorem wX10_ruleClause_B104 {p : Program} {l : Launch} {e : Env} {s : State} {m : MethodId} {args : Array Value} {below : List Frame} {meth : Method} {c : Code} {E : Ev} (hL : ∀ k, fxM k = true → k ∈ eL E) {p1 : Int32} {sz : Nat} {res : St} (X : CX p s m args c E RX10 cX10_ruleClause 4 (Af E sz)) (hr : meth.sig.returnType = none) (hlk : meth.locks = false) : ∀ (y3 : Int32) (st : St) (H : Heap) (locs : List Loc), fX10_ruleClause_B104 p1  y3 st = some res → Gd E st (Af E sz) s H locs → ∀ ls : Array Slot, lv_has ls 4 [(0, .ref (eq E 500)), (3, .int y3)] → W p l e (rmk 11) s m args below meth c H locs 0 0 (MQ below (QWv E res sz) args s 0 0 (Af E sz)) (F0 m 104 ls []) := by
  have hx := X.1.1
  have hb := X.1.2.1
  intro y3 st H locs hf G ls hl
  unfold fX10_ruleClause_B104 at hf
  refine lv_aload_n hx hb dX10_ruleClause_104 rfl (lv_at hl 0 rfl) ?_
  refine gf10 X G (hL 500 rfl) rfl 45 (by decide) rfl kf_X10_114 iwX10 dX10_ruleClause_105 ?_
  refine lv_iload_n hx hb dX10_ruleClause_108 rfl (lv_at hl 1 rfl) ?_
  refine lv_aload_n hx hb dX10_ruleClause_109 rfl (lv_at hl 0 rfl) ?_
  refine gf10 X G (hL 500 rfl) rfl 34 (by decide) rfl kf_X10_220 iwX10 dX10_ruleClause_110 ?_
  obtain ⟨h1, hf⟩ := gd_s hf
  refine ia_st (k := 546) (n := 72) X G (hL 546 rfl) rfl (by decide) (ix_in h1) dX10_ruleClause_113 (fun s2 es2 H locs G => ?_)
  have hf := nm_s hf s2 es2
  exact rtWv X hlk G hr (so_i hf) dX10_ruleClause_114
def fX10_ruleClause (p1 : Int32) (st : St) : Option St := br (fX10_blanks st) (fun s2 => nm (s2.1 500 30) (fun x3 => br (fX10_stood 21 s2) (fun x5 => if x5 = 0 then (br (fX10_fails (0 : Int32) x3 s2) (fun s8 => some s8)) else (if p1 = (12 : Int32) then (br (fX10_fails (4 : Int32) x3 s2) (fun s9 => some s9)) else (nm (ui s2 500 30 ((s2.1 500 30) + (4 : Int32))) (fun s8 => nm (((12 : Int32) * (s8.1 500 32)) + p1) (fun x9 => gd (ix x9 72) (nm (ui s8 544 x9.toNatClampNeg (s8.1 500 34)) (fun s11 => br (fX10_sum s11) (fun s13 => gd (ix x9 72) (nm (ui s13 545 x9.toNatClampNeg (s13.1 500 34)) (fun s15 => if (s15.1 500 31) = 0 then (bw (fX10_takes 22 s15) (fun x19 s18 => if x19 = 0 then (fX10_ruleClause_B104 p1 x9 s18) else (br (fX10_test s18) (fun s22 => fX10_ruleClause_B104 p1 x9 s22)))) else (fX10_ruleClause_B104 p1 x9 s15)))))))))))))
set_option maxRecDepth 100000 in
theorem tX10_ruleClause (l : Launch) (E : Ev) (st : St) (sz : Nat) (hL : ∀ k, fxM k = true → k ∈ eL E) (p1 : Int32) {res : St} (hf : fX10_ruleClause  p1 st = some res) : Met l yX10_ruleClause (.code yX10_ruleClause cX10_ruleClause 4 none :: uW) (rmk 11) (va_Pc [.ref (eq E 500), .int p1] (Pre E st sz)) (QWv E res sz) 0 0 (Af E sz) := by
  refine Met_in (by decide) (Nat.le_of_ble_eq_true rfl) ?_
  intro p e s m below meth c X hr hlk hz G ls hl
  have hx := X.1.1
  have hb := X.1.2.1
  have hl : lv_has ls 4 [(0, .ref (eq E 500)), (1, .int p1)] := hl
  unfold fX10_ruleClause at hf
  refine lv_aload_n hx hb dX10_ruleClause_0 rfl (lv_at hl 0 rfl) ?_
  obtain ⟨s2, h1, hf⟩ := br_s hf
  refine cVWv (As := []) (rest := []) X G kc_X10_210 (tX10_blanks l E st _ hL   h1) (rcv X G (hL 500 rfl) (cO10 rfl) rfl) rfl rfl (rmk_le (by omega) (by decide)) rfl hl.1 rfl (Nat.le_of_ble_eq_true rfl) dX10_ruleClause_1 ⟨Nat.zero_le _, Nat.zero_le _⟩ (fun H locs G => ?_)
  refine lv_aload_n hx hb dX10_ruleClause_4 rfl (lv_at hl 0 rfl) ?_
  refine gf10 X G (hL 500 rfl) rfl 30 (by decide) rfl kf_X10_190 iwX10 dX10_ruleClause_5 ?_
  refine lv_topi (fun x3 ex3 => ?_)
  have hf := nm_s hf x3 ex3
  refine lv_istore_n (lv' := [(2, .int x3), (0, .ref (eq E 500)), (1, .int p1)]) hx hb dX10_ruleClause_8 rfl hl (by decide) rfl (fun ls hl => ?_)
  refine lv_aload_n hx hb dX10_ruleClause_9 rfl (lv_at hl 1 rfl) ?_
  refine va_ldcwS hx hb X.1.2.2.2.1 (X.2.2.2.2 21 (by decide)) dX10_ruleClause_10 ?_
  obtain ⟨x5, h4, hf⟩ := br_s hf
  refine cVRi (As := [.ref (eK E 21)]) (rest := []) X G kc_X10_213 (tX10_stood l E s2 _ hL (by decide)  h4) (rcv X G (hL 500 rfl) (cO10 rfl) rfl) rfl rfl (rmk_le (by omega) (by decide)) rfl hl.1 rfl (Nat.le_of_ble_eq_true rfl) dX10_ruleClause_13 ⟨Nat.zero_le _, Nat.zero_le _⟩ ?_
  refine lv_if_ne (tgt := 26) hx hb dX10_ruleClause_16 (by decide) (fun c6 => ?_) (fun c6 => ?_)
  · have hf := it_f hf c6
    refine lv_iload_n hx hb dX10_ruleClause_26 rfl (lv_at hl 2 rfl) ?_
    refine lv_bipush (v := (12 : Int32)) hx hb dX10_ruleClause_27 (by decide) ?_
    refine lv_icmp_ne (tgt := 39) hx hb dX10_ruleClause_29 (by decide) (fun c7 => ?_) (fun c7 => ?_)
    · have hf := it_f hf c7
      refine lv_aload_n hx hb dX10_ruleClause_39 rfl (lv_at hl 1 rfl) ?_
      refine lv_dup hx hb dX10_ruleClause_40 rfl ?_
      refine gf10 X G (hL 500 rfl) rfl 30 (by decide) rfl kf_X10_190 iwX10 dX10_ruleClause_41 ?_
      refine lv_iconst (v := (4 : Int32)) hx hb dX10_ruleClause_44 (by decide) ?_
      refine lv_iadd hx hb dX10_ruleClause_45 ?_
      refine pf10 X G (hL 500 rfl) rfl 30 (by decide) ps10_30 uio kf_X10_190 iwX10 rfl (ty := .int) (by decide +kernel) rfl rfl dX10_ruleClause_46 (fun s8 es8 H locs G => ?_)
      have hf := nm_s hf s8 es8
      refine lv_bipush (v := (12 : Int32)) hx hb dX10_ruleClause_49 (by decide) ?_
      refine lv_aload_n hx hb dX10_ruleClause_51 rfl (lv_at hl 1 rfl) ?_
      refine gf10 X G (hL 500 rfl) rfl 32 (by decide) rfl kf_X10_217 iwX10 dX10_ruleClause_52 ?_
      refine lv_imul hx hb dX10_ruleClause_55 ?_
      refine lv_iload_n hx hb dX10_ruleClause_56 rfl (lv_at hl 2 rfl) ?_
      refine lv_iadd hx hb dX10_ruleClause_57 ?_
      refine lv_topi (fun x9 ex9 => ?_)
      have hf := nm_s hf x9 ex9
      refine lv_istore_n (lv' := [(3, .int x9), (2, .int x3), (0, .ref (eq E 500)), (1, .int p1)]) hx hb dX10_ruleClause_58 rfl hl (by decide) rfl (fun ls hl => ?_)
      refine lv_aload_n hx hb dX10_ruleClause_59 rfl (lv_at hl 2 rfl) ?_
      refine gf10 X G (hL 500 rfl) rfl 43 (by decide) rfl kf_X10_108 iwX10 dX10_ruleClause_60 ?_
      refine lv_iload_n hx hb dX10_ruleClause_63 rfl (lv_at hl 0 rfl) ?_
      refine lv_aload_n hx hb dX10_ruleClause_64 rfl (lv_at hl 2 rfl) ?_
      refine gf10 X G (hL 500 rfl) rfl 34 (by decide) rfl kf_X10_220 iwX10 dX10_ruleClause_65 ?_
      obtain ⟨h10, hf⟩ := gd_s hf
      refine ia_st (k := 544) (n := 72) X G (hL 544 rfl) rfl (by decide) (ix_in h10) dX10_ruleClause_68 (fun s11 es11 H locs G => ?_)
      have hf := nm_s hf s11 es11
      refine lv_aload_n hx hb dX10_ruleClause_69 rfl (lv_at hl 2 rfl) ?_
      obtain ⟨s13, h12, hf⟩ := br_s hf
      refine cVWv (As := []) (rest := []) X G kc_X10_255 (tX10_sum l E s11 _ hL   h12) (rcv X G (hL 500 rfl) (cO10 rfl) rfl) rfl rfl (rmk_le (by omega) (by decide)) rfl hl.1 rfl (Nat.le_of_ble_eq_true rfl) dX10_ruleClause_70 ⟨Nat.zero_le _, Nat.zero_le _⟩ (fun H locs G => ?_)
      refine lv_aload_n hx hb dX10_ruleClause_73 rfl (lv_at hl 2 rfl) ?_
      refine gf10 X G (hL 500 rfl) rfl 44 (by decide) rfl kf_X10_111 iwX10 dX10_ruleClause_74 ?_
      refine lv_iload_n hx hb dX10_ruleClause_77 rfl (lv_at hl 0 rfl) ?_
      refine lv_aload_n hx hb dX10_ruleClause_78 rfl (lv_at hl 2 rfl) ?_
      refine gf10 X G (hL 500 rfl) rfl 34 (by decide) rfl kf_X10_220 iwX10 dX10_ruleClause_79 ?_
      obtain ⟨h14, hf⟩ := gd_s hf
      refine ia_st (k := 545) (n := 72) X G (hL 545 rfl) rfl (by decide) (ix_in h14) dX10_ruleClause_82 (fun s15 es15 H locs G => ?_)
      have hf := nm_s hf s15 es15
      refine lv_aload_n hx hb dX10_ruleClause_83 rfl (lv_at hl 2 rfl) ?_
      refine gf10 X G (hL 500 rfl) rfl 31 (by decide) rfl kf_X10_187 iwX10 dX10_ruleClause_84 ?_
      refine lv_if_ne (tgt := 104) hx hb dX10_ruleClause_87 (by decide) (fun c16 => ?_) (fun c16 => ?_)
      · have hf := it_f hf c16
        exact wX10_ruleClause_B104 hL X hr hlk x9 s15 _ _ hf G _ (lv_sub hl [2, 0] rfl)
      · have hf := it_t hf c16
        refine lv_aload_n hx hb dX10_ruleClause_90 rfl (lv_at hl 2 rfl) ?_
        refine va_ldcwS hx hb X.1.2.2.2.1 (X.2.2.2.2 22 (by decide)) dX10_ruleClause_91 ?_
        obtain ⟨x19, s18, h17, hf⟩ := bw_s hf
        refine cVWi (As := [.ref (eK E 22)]) (rest := []) X G kc_X10_341 (tX10_takes l E s15 _ hL (by decide)  h17) (rcv X G (hL 500 rfl) (cO10 rfl) rfl) rfl rfl (rmk_le (by omega) (by decide)) rfl hl.1 rfl (Nat.le_of_ble_eq_true rfl) dX10_ruleClause_94 ⟨Nat.zero_le _, Nat.zero_le _⟩ (fun H locs G => ?_)
        refine lv_if_eq (tgt := 104) hx hb dX10_ruleClause_97 (by decide) (fun c20 => ?_) (fun c20 => ?_)
        · have hf := it_t hf c20
          exact wX10_ruleClause_B104 hL X hr hlk x9 s18 _ _ hf G _ (lv_sub hl [2, 0] rfl)
        · have hf := it_f hf c20
          refine lv_aload_n hx hb dX10_ruleClause_100 rfl (lv_at hl 2 rfl) ?_
          obtain ⟨s22, h21, hf⟩ := br_s hf
          refine cVWv (As := []) (rest := []) X G kc_X10_344 (tX10_test l E s18 _ hL   h21) (rcv X G (hL 500 rfl) (cO10 rfl) rfl) rfl rfl (rmk_le (by omega) (by decide)) rfl hl.1 rfl (Nat.le_of_ble_eq_true rfl) dX10_ruleClause_101 ⟨Nat.zero_le _, Nat.zero_le _⟩ (fun H locs G => ?_)
          exact wX10_ruleClause_B104 hL X hr hlk x9 s22 _ _ hf G _ (lv_sub hl [2, 0] rfl)
    · have hf := it_t hf c7
      refine lv_aload_n hx hb dX10_ruleClause_32 rfl (lv_at hl 1 rfl) ?_
      refine lv_iconst (v := (4 : Int32)) hx hb dX10_ruleClause_33 (by decide) ?_
      refine lv_iload_n hx hb dX10_ruleClause_34 rfl (lv_at hl 0 rfl) ?_
      obtain ⟨s9, h8, hf⟩ := br_s hf
      refine cVWv (As := [.int (4 : Int32), .int x3]) (rest := []) X G kc_X10_226 (tX10_fails l E s2 _ hL  (4 : Int32) x3 h8) (rcv X G (hL 500 rfl) (cO10 rfl) rfl) rfl rfl (rmk_le (by omega) (by decide)) rfl hl.1 rfl (Nat.le_of_ble_eq_true rfl) dX10_ruleClause_35 ⟨Nat.zero_le _, Nat.zero_le _⟩ (fun H locs G => ?_)
      exact rtWv X hlk G hr (so_i hf) dX10_ruleClause_38
  · have hf := it_t hf c6
    refine lv_aload_n hx hb dX10_ruleClause_19 rfl (lv_at hl 1 rfl) ?_
    refine lv_iconst (v := (0 : Int32)) hx hb dX10_ruleClause_20 (by decide) ?_
    refine lv_iload_n hx hb dX10_ruleClause_21 rfl (lv_at hl 0 rfl) ?_
    obtain ⟨s8, h7, hf⟩ := br_s hf
    refine cVWv (As := [.int (0 : Int32), .int x3]) (rest := []) X G kc_X10_226 (tX10_fails l E s2 _ hL  (0 : Int32) x3 h7) (rcv X G (hL 500 rfl) (cO10 rfl) rfl) rfl rfl (rmk_le (by omega) (by decide)) rfl hl.1 rfl (Nat.le_of_ble_eq_true rfl) dX10_ruleClause_22 ⟨Nat.zero_le _, Nat.zero_le _⟩ (fun H locs G => ?_)
    exact rtWv X hlk G hr (so_i hf) dX10_ruleClause_25
def fX10_rule_B79 (z0 : Int32) (z1 : Int32) (st : St) : Option (Int32 × St) := nm (ui st 500 33 (z1 + z0)) (fun s1 => if (s1.1 500 31) ≤ 0 then (some (((s1.1 500 33) - (1 : Int32)), s1)) else (some (((-2 : Int32) - (s1.1 500 31)), s1)))
set_option maxRecDepth 100000 in
theorem wX10_rule_B79 {p : Program} {l : Launch} {e : Env} {s : State} {m : MethodId} {args : Array Value} {below : List Frame} {meth : Method} {c : Code} {E : Ev} (hL : ∀ k, fxM k = true → k ∈ eL E) {sz : Nat} {res : (Int32 × St)} (X : CX p s m args c E RX10 cX10_rule 3 (Af E sz)) (hr : meth.sig.returnType = (some .int)) (hlk : meth.locks = false) : ∀ (z0 : Int32) (z1 : Int32) (st : St) (H : Heap) (locs : List Loc), fX10_rule_B79   z0 z1 st = some res → Gd E st (Af E sz) s H locs → ∀ ls : Array Slot, lv_has ls 3 [(0, .ref (eq E 500))] → W p l e (rmk 12) s m args below meth c H locs 0 0 (MQ below (QWi E res.2 sz res.1) args s 0 0 (Af E sz)) (F0 m 79 ls [.int z0, .int z1, .ref (eq E 500)]) := by
  have hx := X.1.1
  have hb := X.1.2.1
  intro z0 z1 st H locs hf G ls hl
  unfold fX10_rule_B79 at hf
  refine lv_iadd hx hb dX10_rule_79 ?_
  refine pf10 X G (hL 500 rfl) rfl 33 (by decide) ps10_33 uio kf_X10_347 iwX10 rfl (ty := .int) (by decide +kernel) rfl rfl dX10_rule_80 (fun s1 es1 H locs G => ?_)
  have hf := nm_s hf s1 es1
  refine lv_aload_n hx hb dX10_rule_83 rfl (lv_at hl 0 rfl) ?_
  refine gf10 X G (hL 500 rfl) rfl 31 (by decide) rfl kf_X10_187 iwX10 dX10_rule_84 ?_
  refine lv_if_le (tgt := 100) hx hb dX10_rule_87 (by decide) (fun c2 => ?_) (fun c2 => ?_)
  · have hf := it_t hf c2
    refine lv_aload_n hx hb dX10_rule_100 rfl (lv_at hl 0 rfl) ?_
    refine gf10 X G (hL 500 rfl) rfl 33 (by decide) rfl kf_X10_347 iwX10 dX10_rule_101 ?_
    refine lv_iconst (v := (1 : Int32)) hx hb dX10_rule_104 (by decide) ?_
    refine lv_isub hx hb dX10_rule_105 ?_
    exact rtWi X hlk G hr (so_i hf) dX10_rule_106
  · have hf := it_f hf c2
    refine lv_bipush (v := (-2 : Int32)) hx hb dX10_rule_90 (by decide) ?_
    refine lv_aload_n hx hb dX10_rule_92 rfl (lv_at hl 0 rfl) ?_
    refine gf10 X G (hL 500 rfl) rfl 31 (by decide) rfl kf_X10_187 iwX10 dX10_rule_93 ?_
    refine lv_isub hx hb dX10_rule_96 ?_
    refine lv_goto (tgt := 106) hx hb dX10_rule_97 (by decide) ?_
    exact rtWi X hlk G hr (so_i hf) dX10_rule_106
def fX10_rule_L27 : Nat → Int32 → Int32 → St → Option (Int32 × St)
  | 0, _, _, _ => none
  | n + 1, y1, y2, st => if y2 = 0 then (nm (ui st 500 29 (0 : Int32)) (fun s2 => gd (ix (s2.1 500 32) 6) (nm (ui s2 543 (s2.1 500 32).toNatClampNeg y1) (fun s4 => if (s4.1 500 31) = 0 then (fX10_rule_B79 (1 : Int32) (s4.1 500 33) s4) else (fX10_rule_B79 (0 : Int32) (s4.1 500 33) s4))))) else (br (fX10_ruleClause y1 st) (fun s3 => nm (y1 + (1 : Int32)) (fun x4 => bw (fX10_goesOn s3) (fun x7 s6 => (fX10_rule_L27 n) x4 x7 s6))))
set_option maxRecDepth 100000 in
theorem wX10_rule_L27 {p : Program} {l : Launch} {e : Env} {s : State} {m : MethodId} {args : Array Value} {below : List Frame} {meth : Method} {c : Code} {E : Ev} (hL : ∀ k, fxM k = true → k ∈ eL E) {sz : Nat} {res : (Int32 × St)} (X : CX p s m args c E RX10 cX10_rule 3 (Af E sz)) (hr : meth.sig.returnType = (some .int)) (hlk : meth.locks = false) : ∀ (n : Nat) (y1 : Int32) (y2 : Int32) (st : St) (H : Heap) (locs : List Loc), fX10_rule_L27   n y1 y2 st = some res → Gd E st (Af E sz) s H locs → ∀ ls : Array Slot, lv_has ls 3 [(0, .ref (eq E 500)), (1, .int y1), (2, .int y2)] → W p l e (rmk 12) s m args below meth c H locs 0 0 (MQ below (QWi E res.2 sz res.1) args s 0 0 (Af E sz)) (F0 m 27 ls []) := by
  have hx := X.1.1
  have hb := X.1.2.1
  intro n
  induction n with
  | zero =>
    intro y1 y2 st H locs hf G ls hl
    cases (show (none : Option (Int32 × St)) = some res from hf)
  | succ n ih =>
    intro y1 y2 st H locs hf G ls hl
    rw [fX10_rule_L27] at hf
    refine lv_iload_n hx hb dX10_rule_27 rfl (lv_at hl 2 rfl) ?_
    refine lv_if_eq (tgt := 47) hx hb dX10_rule_28 (by decide) (fun c1 => ?_) (fun c1 => ?_)
    · have hf := it_t hf c1
      refine lv_aload_n hx hb dX10_rule_47 rfl (lv_at hl 0 rfl) ?_
      refine lv_iconst (v := (0 : Int32)) hx hb dX10_rule_48 (by decide) ?_
      refine pf10 X G (hL 500 rfl) rfl 29 (by decide) ps10_29 uio kf_X10_160 iwX10 rfl (ty := .int) (by decide +kernel) rfl rfl dX10_rule_49 (fun s2 es2 H locs G => ?_)
      have hf := nm_s hf s2 es2
      refine lv_aload_n hx hb dX10_rule_52 rfl (lv_at hl 0 rfl) ?_
      refine gf10 X G (hL 500 rfl) rfl 42 (by decide) rfl kf_X10_105 iwX10 dX10_rule_53 ?_
      refine lv_aload_n hx hb dX10_rule_56 rfl (lv_at hl 0 rfl) ?_
      refine gf10 X G (hL 500 rfl) rfl 32 (by decide) rfl kf_X10_217 iwX10 dX10_rule_57 ?_
      refine lv_iload_n hx hb dX10_rule_60 rfl (lv_at hl 1 rfl) ?_
      obtain ⟨h3, hf⟩ := gd_s hf
      refine ia_st (k := 543) (n := 6) X G (hL 543 rfl) rfl (by decide) (ix_in h3) dX10_rule_61 (fun s4 es4 H locs G => ?_)
      have hf := nm_s hf s4 es4
      refine lv_aload_n hx hb dX10_rule_62 rfl (lv_at hl 0 rfl) ?_
      refine lv_dup hx hb dX10_rule_63 rfl ?_
      refine gf10 X G (hL 500 rfl) rfl 33 (by decide) rfl kf_X10_347 iwX10 dX10_rule_64 ?_
      refine lv_aload_n hx hb dX10_rule_67 rfl (lv_at hl 0 rfl) ?_
      refine gf10 X G (hL 500 rfl) rfl 31 (by decide) rfl kf_X10_187 iwX10 dX10_rule_68 ?_
      refine lv_if_ne (tgt := 78) hx hb dX10_rule_71 (by decide) (fun c5 => ?_) (fun c5 => ?_)
      · have hf := it_f hf c5
        refine lv_iconst (v := (0 : Int32)) hx hb dX10_rule_78 (by decide) ?_
        exact wX10_rule_B79 hL X hr hlk (0 : Int32) (s4.1 500 33) s4 _ _ hf G _ (lv_sub hl [0] rfl)
      · have hf := it_t hf c5
        refine lv_iconst (v := (1 : Int32)) hx hb dX10_rule_74 (by decide) ?_
        refine lv_goto (tgt := 79) hx hb dX10_rule_75 (by decide) ?_
        exact wX10_rule_B79 hL X hr hlk (1 : Int32) (s4.1 500 33) s4 _ _ hf G _ (lv_sub hl [0] rfl)
    · have hf := it_f hf c1
      refine lv_aload_n hx hb dX10_rule_31 rfl (lv_at hl 0 rfl) ?_
      refine lv_iload_n hx hb dX10_rule_32 rfl (lv_at hl 1 rfl) ?_
      obtain ⟨s3, h2, hf⟩ := br_s hf
      refine cVWv (As := [.int y1]) (rest := []) X G kc_X10_350 (tX10_ruleClause l E st _ hL  y1 h2) (rcv X G (hL 500 rfl) (cO10 rfl) rfl) rfl rfl (rmk_le (by omega) (by decide)) rfl hl.1 rfl (Nat.le_of_ble_eq_true rfl) dX10_rule_33 ⟨Nat.zero_le _, Nat.zero_le _⟩ (fun H locs G => ?_)
      obtain ⟨x4, ex4⟩ : ∃ y : Int32, y = (y1 + (1 : Int32)) := ⟨_, rfl⟩
      have hf := nm_s hf x4 ex4
      refine lv_iinc (k := 1) (v := x4) (lv' := [(1, .int x4), (0, .ref (eq E 500)), (2, .int y2)]) hx hb dX10_rule_36 hl rfl (by rw [ex4]; rfl) (by decide) rfl (fun ls hl => ?_)
      refine lv_aload_n hx hb dX10_rule_39 rfl (lv_at hl 1 rfl) ?_
      obtain ⟨x7, s6, h5, hf⟩ := bw_s hf
      refine cVWi (As := []) (rest := []) X G kc_X10_317 (tX10_goesOn l E s3 _ hL   h5) (rcv X G (hL 500 rfl) (cO10 rfl) rfl) rfl rfl (rmk_le (by omega) (by decide)) rfl hl.1 rfl (Nat.le_of_ble_eq_true rfl) dX10_rule_40 ⟨Nat.zero_le _, Nat.zero_le _⟩ (fun H locs G => ?_)
      refine lv_istore_n (lv' := [(2, .int x7), (1, .int x4), (0, .ref (eq E 500))]) hx hb dX10_rule_43 rfl hl (by decide) rfl (fun ls hl => ?_)
      refine lv_goto (tgt := 27) hx hb dX10_rule_44 (by decide) ?_
      exact ih x4 x7 s6 _ _ hf G _ (lv_sub hl [2, 1, 0] rfl)
def fX10_rule (st : St) : Option (Int32 × St) := if (st.1 500 33) = (6 : Int32) then (some ((-1 : Int32), st)) else (nm (ui st 500 32 (st.1 500 33)) (fun s2 => br (fX10_starts s2) (fun s4 => fX10_rule_L27 10000 (0 : Int32) (1 : Int32) s4)))
set_option maxRecDepth 100000 in
theorem tX10_rule (l : Launch) (E : Ev) (st : St) (sz : Nat) (hL : ∀ k, fxM k = true → k ∈ eL E)  {res : (Int32 × St)} (hf : fX10_rule   st = some res) : Met l yX10_rule (.code yX10_rule cX10_rule 3 (some .int) :: uW) (rmk 12) (va_Pc [.ref (eq E 500)] (Pre E st sz)) (QWi E res.2 sz res.1) 0 0 (Af E sz) := by
  refine Met_in (by decide) (Nat.le_of_ble_eq_true rfl) ?_
  intro p e s m below meth c X hr hlk hz G ls hl
  have hx := X.1.1
  have hb := X.1.2.1
  have hl : lv_has ls 3 [(0, .ref (eq E 500))] := hl
  unfold fX10_rule at hf
  refine lv_aload_n hx hb dX10_rule_0 rfl (lv_at hl 0 rfl) ?_
  refine gf10 X G (hL 500 rfl) rfl 33 (by decide) rfl kf_X10_347 iwX10 dX10_rule_1 ?_
  refine lv_bipush (v := (6 : Int32)) hx hb dX10_rule_4 (by decide) ?_
  refine lv_icmp_ne (tgt := 11) hx hb dX10_rule_6 (by decide) (fun c1 => ?_) (fun c1 => ?_)
  · have hf := it_f hf c1
    refine lv_aload_n hx hb dX10_rule_11 rfl (lv_at hl 0 rfl) ?_
    refine lv_aload_n hx hb dX10_rule_12 rfl (lv_at hl 0 rfl) ?_
    refine gf10 X G (hL 500 rfl) rfl 33 (by decide) rfl kf_X10_347 iwX10 dX10_rule_13 ?_
    refine pf10 X G (hL 500 rfl) rfl 32 (by decide) ps10_32 uio kf_X10_217 iwX10 rfl (ty := .int) (by decide +kernel) rfl rfl dX10_rule_16 (fun s2 es2 H locs G => ?_)
    have hf := nm_s hf s2 es2
    refine lv_aload_n hx hb dX10_rule_19 rfl (lv_at hl 0 rfl) ?_
    obtain ⟨s4, h3, hf⟩ := br_s hf
    refine cVWv (As := []) (rest := []) X G kc_X10_311 (tX10_starts l E s2 _ hL   h3) (rcv X G (hL 500 rfl) (cO10 rfl) rfl) rfl rfl (rmk_le (by omega) (by decide)) rfl hl.1 rfl (Nat.le_of_ble_eq_true rfl) dX10_rule_20 ⟨Nat.zero_le _, Nat.zero_le _⟩ (fun H locs G => ?_)
    refine lv_iconst (v := (0 : Int32)) hx hb dX10_rule_23 (by decide) ?_
    refine lv_istore_n (lv' := [(1, .int (0 : Int32)), (0, .ref (eq E 500))]) hx hb dX10_rule_24 rfl hl (by decide) rfl (fun ls hl => ?_)
    refine lv_iconst (v := (1 : Int32)) hx hb dX10_rule_25 (by decide) ?_
    refine lv_istore_n (lv' := [(2, .int (1 : Int32)), (1, .int (0 : Int32)), (0, .ref (eq E 500))]) hx hb dX10_rule_26 rfl hl (by decide) rfl (fun ls hl => ?_)
    exact wX10_rule_L27 hL X hr hlk 10000 (0 : Int32) (1 : Int32) s4 _ _ hf G _ (lv_sub hl [2, 1, 0] rfl)
  · have hf := it_t hf c1
    refine lv_iconst (v := (-1 : Int32)) hx hb dX10_rule_9 (by decide) ?_
    exact rtWi X hlk G hr (so_i hf) dX10_rule_10
def fX10_force (p1 : Int32) (st : St) : Option (Int32 × St) := br (fX10_in (Int32.toInt64 p1) (-1 : Int64) (Int32.toInt64 ((st.1 500 33) - (1 : Int32)))) (fun x2 => if x2 = 0 then (some ((-2 : Int32), st)) else (nm (st.1 502 11) (fun x5 => nm (ui st 502 11 p1) (fun s7 => some (x5, s7)))))
set_option maxRecDepth 100000 in
theorem tX10_force (l : Launch) (E : Ev) (st : St) (sz : Nat) (hL : ∀ k, fxM k = true → k ∈ eL E) (p1 : Int32) {res : (Int32 × St)} (hf : fX10_force  p1 st = some res) : Met l yX10_force (.code yX10_force cX10_force 3 (some .int) :: uW) (rmk 1) (va_Pc [.ref (eq E 500), .int p1] (Pre E st sz)) (QWi E res.2 sz res.1) 0 0 (Af E sz) := by
  refine Met_in (by decide) (Nat.le_of_ble_eq_true rfl) ?_
  intro p e s m below meth c X hr hlk hz G ls hl
  have hx := X.1.1
  have hb := X.1.2.1
  have hl : lv_has ls 3 [(0, .ref (eq E 500)), (1, .int p1)] := hl
  unfold fX10_force at hf
  refine lv_iload_n hx hb dX10_force_0 rfl (lv_at hl 1 rfl) ?_
  refine lv_i2l hx hb dX10_force_1 rfl ?_
  refine lv_ldc2 (v := (-1 : Int64)) hx hb X.1.2.2.2.1 (X.1.2.2.2.2 _ kk_X10_353) dX10_force_2 ?_
  refine lv_aload_n hx hb dX10_force_5 rfl (lv_at hl 0 rfl) ?_
  refine gf10 X G (hL 500 rfl) rfl 33 (by decide) rfl kf_X10_347 iwX10 dX10_force_6 ?_
  refine lv_iconst (v := (1 : Int32)) hx hb dX10_force_9 (by decide) ?_
  refine lv_isub hx hb dX10_force_10 ?_
  refine lv_i2l hx hb dX10_force_11 rfl ?_
  obtain ⟨x2, h1, hf⟩ := br_s hf
  refine cSRi (As := [.long (Int32.toInt64 p1), .long (-1 : Int64), .long (Int32.toInt64 ((st.1 500 33) - (1 : Int32)))]) (rest := []) X G kc_X10_152 (tX10_in l E st _  (Int32.toInt64 p1) (-1 : Int64) (Int32.toInt64 ((st.1 500 33) - (1 : Int32))) h1) rfl rfl (rmk_le (by omega) (by decide)) rfl hl.1 rfl (Nat.le_of_ble_eq_true rfl) dX10_force_12 ⟨Nat.zero_le _, Nat.zero_le _⟩ ?_
  refine lv_if_ne (tgt := 21) hx hb dX10_force_15 (by decide) (fun c3 => ?_) (fun c3 => ?_)
  · have hf := it_f hf c3
    refine lv_aload_n hx hb dX10_force_21 rfl (lv_at hl 0 rfl) ?_
    refine gf10 X G (hL 500 rfl) rfl 1 (by decide) rfl kf_X10_9 iwX10 dX10_force_22 ?_
    refine lv_bipush (v := (11 : Int32)) hx hb dX10_force_25 (by decide) ?_
    refine ia_ldc (k := 502) (n := 12) X G (hL 502 rfl) rfl (by decide) 11 (by decide) dX10_force_27 ?_
    refine lv_topi (fun x5 ex5 => ?_)
    have hf := nm_s hf x5 ex5
    refine lv_istore_n (lv' := [(2, .int x5), (0, .ref (eq E 500)), (1, .int p1)]) hx hb dX10_force_28 rfl hl (by decide) rfl (fun ls hl => ?_)
    refine lv_aload_n hx hb dX10_force_29 rfl (lv_at hl 1 rfl) ?_
    refine gf10 X G (hL 500 rfl) rfl 1 (by decide) rfl kf_X10_9 iwX10 dX10_force_30 ?_
    refine lv_bipush (v := (11 : Int32)) hx hb dX10_force_33 (by decide) ?_
    refine lv_iload_n hx hb dX10_force_35 rfl (lv_at hl 2 rfl) ?_
    refine ia_stc (k := 502) (n := 12) X G (hL 502 rfl) rfl (by decide) 11 (by decide) dX10_force_36 (fun s7 es7 H locs G => ?_)
    have hf := nm_s hf s7 es7
    refine lv_iload_n hx hb dX10_force_37 rfl (lv_at hl 0 rfl) ?_
    exact rtWi X hlk G hr (so_i hf) dX10_force_38
  · have hf := it_t hf c3
    refine lv_bipush (v := (-2 : Int32)) hx hb dX10_force_18 (by decide) ?_
    exact rtWi X hlk G hr (so_i hf) dX10_force_20
def fX10_truth (p1 : Int32) : Option Int64 := if p1 = 0 then (some (0 : Int64)) else (some (1 : Int64))
set_option maxRecDepth 100000 in
theorem tX10_truth (l : Launch) (E : Ev) (st : St) (sz : Nat) (p1 : Int32) {res : Int64} (hf : fX10_truth  p1 = some res) : Met l yX10_truth (.code yX10_truth cX10_truth 1 (some .long) :: uW) (rmk 0) (va_Pc [.int p1] (Pre E st sz)) (QRl res) 0 0 (NoF) := by
  refine Met_in (by decide) (Nat.le_of_ble_eq_true rfl) ?_
  intro p e s m below meth c X hr hlk hz G ls hl
  have hx := X.1.1
  have hb := X.1.2.1
  have hl : lv_has ls 1 [(0, .int p1)] := hl
  unfold fX10_truth at hf
  refine lv_iload_n hx hb dX10_truth_0 rfl (lv_at hl 0 rfl) ?_
  refine lv_if_eq (tgt := 8) hx hb dX10_truth_1 (by decide) (fun c1 => ?_) (fun c1 => ?_)
  · have hf := it_t hf c1
    refine lv_lconst (v := (0 : Int64)) hx hb dX10_truth_8 (by decide) ?_
    exact rtRl X hlk hr (so_i hf) dX10_truth_9
  · have hf := it_f hf c1
    refine lv_lconst (v := (1 : Int64)) hx hb dX10_truth_4 (by decide) ?_
    refine lv_goto (tgt := 9) hx hb dX10_truth_5 (by decide) ?_
    exact rtRl X hlk hr (so_i hf) dX10_truth_9
def fX10_both (p1 : Int32) (p2 : Int64) (p3 : Int64) : Option Int64 := if p1 = (2 : Int32) then (some (p2 + p3)) else (if p1 = (3 : Int32) then (some (p2 - p3)) else (if p1 = (4 : Int32) then (if 0 ≤ (lg_cmp p2 p3) then (br (fX10_truth (0 : Int32)) (fun x3 => some x3)) else (br (fX10_truth (1 : Int32)) (fun x3 => some x3))) else (if p1 = (5 : Int32) then (if 0 < (lg_cmp p2 p3) then (br (fX10_truth (0 : Int32)) (fun x3 => some x3)) else (br (fX10_truth (1 : Int32)) (fun x3 => some x3))) else (if p1 = (6 : Int32) then (if (lg_cmp p2 p3) = 0 then (br (fX10_truth (1 : Int32)) (fun x3 => some x3)) else (br (fX10_truth (0 : Int32)) (fun x3 => some x3))) else (if p1 = (7 : Int32) then (if (lg_cmp p2 p3) < 0 then (br (fX10_truth (0 : Int32)) (fun x3 => some x3)) else (br (fX10_truth (1 : Int32)) (fun x3 => some x3))) else (if p1 = (8 : Int32) then (if (lg_cmp p2 p3) ≤ 0 then (br (fX10_truth (0 : Int32)) (fun x3 => some x3)) else (br (fX10_truth (1 : Int32)) (fun x3 => some x3))) else (if p1 = (10 : Int32) then (some (p2 &&& p3)) else (if p1 = (13 : Int32) then (some (p2 * p3)) else (if p1 = (14 : Int32) then (if (lg_cmp p3 (0 : Int64)) = 0 then (some (0 : Int64)) else (gd (nzl p3) (some (p2 / p3)))) else (if p1 = (15 : Int32) then (if (lg_cmp p3 (0 : Int64)) = 0 then (some (0 : Int64)) else (gd (nzl p3) (some (lrm p2 p3)))) else (some (p2 ||| p3))))))))))))
set_option maxRecDepth 100000 in
theorem tX10_both (l : Launch) (E : Ev) (st : St) (sz : Nat) (p1 : Int32) (p2 : Int64) (p3 : Int64) {res : Int64} (hf : fX10_both  p1 p2 p3 = some res) : Met l yX10_both (.code yX10_both cX10_both 5 (some .long) :: uW) (rmk 1) (va_Pc [.int p1, .long p2, .long p3] (Pre E st sz)) (QRl res) 0 0 (NoF) := by
  refine Met_in (by decide) (Nat.le_of_ble_eq_true rfl) ?_
  intro p e s m below meth c X hr hlk hz G ls hl
  have hx := X.1.1
  have hb := X.1.2.1
  have hl : lv_has ls 5 [(0, .int p1), (1, .long p2), (3, .long p3)] := hl
  unfold fX10_both at hf
  refine lv_iload_n hx hb dX10_both_0 rfl (lv_at hl 0 rfl) ?_
  by_cases cs2 : p1 = (2 : Int32)
  · have hf := it_t hf cs2
    refine tbl_in hx hb dX10_both_1 cs2 (by decide) (by decide) rfl (tgt := 72) (by decide) ?_
    refine lv_lload_n hx hb dX10_both_72 rfl (lv_at hl 1 rfl) ?_
    refine lv_lload_n hx hb dX10_both_73 rfl (lv_at hl 2 rfl) ?_
    refine lv_ladd hx hb dX10_both_74 ?_
    exact rtRl X hlk hr (so_i hf) dX10_both_75
  have hf := it_f hf cs2
  by_cases cs3 : p1 = (3 : Int32)
  · have hf := it_t hf cs3
    refine tbl_in hx hb dX10_both_1 cs3 (by decide) (by decide) rfl (tgt := 76) (by decide) ?_
    refine lv_lload_n hx hb dX10_both_76 rfl (lv_at hl 1 rfl) ?_
    refine lv_lload_n hx hb dX10_both_77 rfl (lv_at hl 2 rfl) ?_
    refine lv_lsub hx hb dX10_both_78 ?_
    exact rtRl X hlk hr (so_i hf) dX10_both_79
  have hf := it_f hf cs3
  by_cases cs4 : p1 = (4 : Int32)
  · have hf := it_t hf cs4
    refine tbl_in hx hb dX10_both_1 cs4 (by decide) (by decide) rfl (tgt := 112) (by decide) ?_
    refine lv_lload_n hx hb dX10_both_112 rfl (lv_at hl 1 rfl) ?_
    refine lv_lload_n hx hb dX10_both_113 rfl (lv_at hl 2 rfl) ?_
    refine W.lcmp hx hb dX10_both_114 ?_
    refine lv_if_ge (tgt := 122) hx hb dX10_both_115 (by decide) (fun c1 => ?_) (fun c1 => ?_)
    · have hf := it_t hf c1
      refine lv_iconst (v := (0 : Int32)) hx hb dX10_both_122 (by decide) ?_
      obtain ⟨x3, h2, hf⟩ := br_s hf
      refine cSRl (As := [.int (0 : Int32)]) (rest := []) X G kc_X10_359 (tX10_truth l E st _  (0 : Int32) h2) rfl rfl (rmk_le (by omega) (by decide)) rfl hl.1 rfl (Nat.le_of_ble_eq_true rfl) dX10_both_123 ⟨Nat.zero_le _, Nat.zero_le _⟩ ?_
      exact rtRl X hlk hr (so_i hf) dX10_both_126
    · have hf := it_f hf c1
      refine lv_iconst (v := (1 : Int32)) hx hb dX10_both_118 (by decide) ?_
      refine lv_goto (tgt := 123) hx hb dX10_both_119 (by decide) ?_
      obtain ⟨x3, h2, hf⟩ := br_s hf
      refine cSRl (As := [.int (1 : Int32)]) (rest := []) X G kc_X10_359 (tX10_truth l E st _  (1 : Int32) h2) rfl rfl (rmk_le (by omega) (by decide)) rfl hl.1 rfl (Nat.le_of_ble_eq_true rfl) dX10_both_123 ⟨Nat.zero_le _, Nat.zero_le _⟩ ?_
      exact rtRl X hlk hr (so_i hf) dX10_both_126
  have hf := it_f hf cs4
  by_cases cs5 : p1 = (5 : Int32)
  · have hf := it_t hf cs5
    refine tbl_in hx hb dX10_both_1 cs5 (by decide) (by decide) rfl (tgt := 127) (by decide) ?_
    refine lv_lload_n hx hb dX10_both_127 rfl (lv_at hl 1 rfl) ?_
    refine lv_lload_n hx hb dX10_both_128 rfl (lv_at hl 2 rfl) ?_
    refine W.lcmp hx hb dX10_both_129 ?_
    refine lv_if_gt (tgt := 137) hx hb dX10_both_130 (by decide) (fun c1 => ?_) (fun c1 => ?_)
    · have hf := it_t hf c1
      refine lv_iconst (v := (0 : Int32)) hx hb dX10_both_137 (by decide) ?_
      obtain ⟨x3, h2, hf⟩ := br_s hf
      refine cSRl (As := [.int (0 : Int32)]) (rest := []) X G kc_X10_359 (tX10_truth l E st _  (0 : Int32) h2) rfl rfl (rmk_le (by omega) (by decide)) rfl hl.1 rfl (Nat.le_of_ble_eq_true rfl) dX10_both_138 ⟨Nat.zero_le _, Nat.zero_le _⟩ ?_
      exact rtRl X hlk hr (so_i hf) dX10_both_141
    · have hf := it_f hf c1
      refine lv_iconst (v := (1 : Int32)) hx hb dX10_both_133 (by decide) ?_
      refine lv_goto (tgt := 138) hx hb dX10_both_134 (by decide) ?_
      obtain ⟨x3, h2, hf⟩ := br_s hf
      refine cSRl (As := [.int (1 : Int32)]) (rest := []) X G kc_X10_359 (tX10_truth l E st _  (1 : Int32) h2) rfl rfl (rmk_le (by omega) (by decide)) rfl hl.1 rfl (Nat.le_of_ble_eq_true rfl) dX10_both_138 ⟨Nat.zero_le _, Nat.zero_le _⟩ ?_
      exact rtRl X hlk hr (so_i hf) dX10_both_141
  have hf := it_f hf cs5
  by_cases cs6 : p1 = (6 : Int32)
  · have hf := it_t hf cs6
    refine tbl_in hx hb dX10_both_1 cs6 (by decide) (by decide) rfl (tgt := 142) (by decide) ?_
    refine lv_lload_n hx hb dX10_both_142 rfl (lv_at hl 1 rfl) ?_
    refine lv_lload_n hx hb dX10_both_143 rfl (lv_at hl 2 rfl) ?_
    refine W.lcmp hx hb dX10_both_144 ?_
    refine lv_if_ne (tgt := 152) hx hb dX10_both_145 (by decide) (fun c1 => ?_) (fun c1 => ?_)
    · have hf := it_f hf c1
      refine lv_iconst (v := (0 : Int32)) hx hb dX10_both_152 (by decide) ?_
      obtain ⟨x3, h2, hf⟩ := br_s hf
      refine cSRl (As := [.int (0 : Int32)]) (rest := []) X G kc_X10_359 (tX10_truth l E st _  (0 : Int32) h2) rfl rfl (rmk_le (by omega) (by decide)) rfl hl.1 rfl (Nat.le_of_ble_eq_true rfl) dX10_both_153 ⟨Nat.zero_le _, Nat.zero_le _⟩ ?_
      exact rtRl X hlk hr (so_i hf) dX10_both_156
    · have hf := it_t hf c1
      refine lv_iconst (v := (1 : Int32)) hx hb dX10_both_148 (by decide) ?_
      refine lv_goto (tgt := 153) hx hb dX10_both_149 (by decide) ?_
      obtain ⟨x3, h2, hf⟩ := br_s hf
      refine cSRl (As := [.int (1 : Int32)]) (rest := []) X G kc_X10_359 (tX10_truth l E st _  (1 : Int32) h2) rfl rfl (rmk_le (by omega) (by decide)) rfl hl.1 rfl (Nat.le_of_ble_eq_true rfl) dX10_both_153 ⟨Nat.zero_le _, Nat.zero_le _⟩ ?_
      exact rtRl X hlk hr (so_i hf) dX10_both_156
  have hf := it_f hf cs6
  by_cases cs7 : p1 = (7 : Int32)
  · have hf := it_t hf cs7
    refine tbl_in hx hb dX10_both_1 cs7 (by decide) (by decide) rfl (tgt := 157) (by decide) ?_
    refine lv_lload_n hx hb dX10_both_157 rfl (lv_at hl 1 rfl) ?_
    refine lv_lload_n hx hb dX10_both_158 rfl (lv_at hl 2 rfl) ?_
    refine W.lcmp hx hb dX10_both_159 ?_
    refine lv_if_lt (tgt := 167) hx hb dX10_both_160 (by decide) (fun c1 => ?_) (fun c1 => ?_)
    · have hf := it_t hf c1
      refine lv_iconst (v := (0 : Int32)) hx hb dX10_both_167 (by decide) ?_
      obtain ⟨x3, h2, hf⟩ := br_s hf
      refine cSRl (As := [.int (0 : Int32)]) (rest := []) X G kc_X10_359 (tX10_truth l E st _  (0 : Int32) h2) rfl rfl (rmk_le (by omega) (by decide)) rfl hl.1 rfl (Nat.le_of_ble_eq_true rfl) dX10_both_168 ⟨Nat.zero_le _, Nat.zero_le _⟩ ?_
      exact rtRl X hlk hr (so_i hf) dX10_both_171
    · have hf := it_f hf c1
      refine lv_iconst (v := (1 : Int32)) hx hb dX10_both_163 (by decide) ?_
      refine lv_goto (tgt := 168) hx hb dX10_both_164 (by decide) ?_
      obtain ⟨x3, h2, hf⟩ := br_s hf
      refine cSRl (As := [.int (1 : Int32)]) (rest := []) X G kc_X10_359 (tX10_truth l E st _  (1 : Int32) h2) rfl rfl (rmk_le (by omega) (by decide)) rfl hl.1 rfl (Nat.le_of_ble_eq_true rfl) dX10_both_168 ⟨Nat.zero_le _, Nat.zero_le _⟩ ?_
      exact rtRl X hlk hr (so_i hf) dX10_both_171
  have hf := it_f hf cs7
  by_cases cs8 : p1 = (8 : Int32)
  · have hf := it_t hf cs8
    refine tbl_in hx hb dX10_both_1 cs8 (by decide) (by decide) rfl (tgt := 172) (by decide) ?_
    refine lv_lload_n hx hb dX10_both_172 rfl (lv_at hl 1 rfl) ?_
    refine lv_lload_n hx hb dX10_both_173 rfl (lv_at hl 2 rfl) ?_
    refine W.lcmp hx hb dX10_both_174 ?_
    refine lv_if_le (tgt := 182) hx hb dX10_both_175 (by decide) (fun c1 => ?_) (fun c1 => ?_)
    · have hf := it_t hf c1
      refine lv_iconst (v := (0 : Int32)) hx hb dX10_both_182 (by decide) ?_
      obtain ⟨x3, h2, hf⟩ := br_s hf
      refine cSRl (As := [.int (0 : Int32)]) (rest := []) X G kc_X10_359 (tX10_truth l E st _  (0 : Int32) h2) rfl rfl (rmk_le (by omega) (by decide)) rfl hl.1 rfl (Nat.le_of_ble_eq_true rfl) dX10_both_183 ⟨Nat.zero_le _, Nat.zero_le _⟩ ?_
      exact rtRl X hlk hr (so_i hf) dX10_both_186
    · have hf := it_f hf c1
      refine lv_iconst (v := (1 : Int32)) hx hb dX10_both_178 (by decide) ?_
      refine lv_goto (tgt := 183) hx hb dX10_both_179 (by decide) ?_
      obtain ⟨x3, h2, hf⟩ := br_s hf
      refine cSRl (As := [.int (1 : Int32)]) (rest := []) X G kc_X10_359 (tX10_truth l E st _  (1 : Int32) h2) rfl rfl (rmk_le (by omega) (by decide)) rfl hl.1 rfl (Nat.le_of_ble_eq_true rfl) dX10_both_183 ⟨Nat.zero_le _, Nat.zero_le _⟩ ?_
      exact rtRl X hlk hr (so_i hf) dX10_both_186
  have hf := it_f hf cs8
  by_cases cs10 : p1 = (10 : Int32)
  · have hf := it_t hf cs10
    refine tbl_in hx hb dX10_both_1 cs10 (by decide) (by decide) rfl (tgt := 187) (by decide) ?_
    refine lv_lload_n hx hb dX10_both_187 rfl (lv_at hl 1 rfl) ?_
    refine lv_lload_n hx hb dX10_both_188 rfl (lv_at hl 2 rfl) ?_
    refine lv_land hx hb dX10_both_189 ?_
    exact rtRl X hlk hr (so_i hf) dX10_both_190
  have hf := it_f hf cs10
  by_cases cs13 : p1 = (13 : Int32)
  · have hf := it_t hf cs13
    refine tbl_in hx hb dX10_both_1 cs13 (by decide) (by decide) rfl (tgt := 80) (by decide) ?_
    refine lv_lload_n hx hb dX10_both_80 rfl (lv_at hl 1 rfl) ?_
    refine lv_lload_n hx hb dX10_both_81 rfl (lv_at hl 2 rfl) ?_
    refine lv_lmul hx hb dX10_both_82 ?_
    exact rtRl X hlk hr (so_i hf) dX10_both_83
  have hf := it_f hf cs13
  by_cases cs14 : p1 = (14 : Int32)
  · have hf := it_t hf cs14
    refine tbl_in hx hb dX10_both_1 cs14 (by decide) (by decide) rfl (tgt := 84) (by decide) ?_
    refine lv_lload_n hx hb dX10_both_84 rfl (lv_at hl 2 rfl) ?_
    refine lv_lconst (v := (0 : Int64)) hx hb dX10_both_85 (by decide) ?_
    refine W.lcmp hx hb dX10_both_86 ?_
    refine lv_if_ne (tgt := 94) hx hb dX10_both_87 (by decide) (fun c1 => ?_) (fun c1 => ?_)
    · have hf := it_f hf c1
      refine lv_lload_n hx hb dX10_both_94 rfl (lv_at hl 1 rfl) ?_
      refine lv_lload_n hx hb dX10_both_95 rfl (lv_at hl 2 rfl) ?_
      obtain ⟨h2, hf⟩ := gd_s hf
      refine lv_ldiv hx hb dX10_both_96 (nzl_n h2) ?_
      exact rtRl X hlk hr (so_i hf) dX10_both_97
    · have hf := it_t hf c1
      refine lv_lconst (v := (0 : Int64)) hx hb dX10_both_90 (by decide) ?_
      refine lv_goto (tgt := 97) hx hb dX10_both_91 (by decide) ?_
      exact rtRl X hlk hr (so_i hf) dX10_both_97
  have hf := it_f hf cs14
  by_cases cs15 : p1 = (15 : Int32)
  · have hf := it_t hf cs15
    refine tbl_in hx hb dX10_both_1 cs15 (by decide) (by decide) rfl (tgt := 98) (by decide) ?_
    refine lv_lload_n hx hb dX10_both_98 rfl (lv_at hl 2 rfl) ?_
    refine lv_lconst (v := (0 : Int64)) hx hb dX10_both_99 (by decide) ?_
    refine W.lcmp hx hb dX10_both_100 ?_
    refine lv_if_ne (tgt := 108) hx hb dX10_both_101 (by decide) (fun c1 => ?_) (fun c1 => ?_)
    · have hf := it_f hf c1
      refine lv_lload_n hx hb dX10_both_108 rfl (lv_at hl 1 rfl) ?_
      refine lv_lload_n hx hb dX10_both_109 rfl (lv_at hl 2 rfl) ?_
      obtain ⟨h2, hf⟩ := gd_s hf
      refine lv_lrem hx hb dX10_both_110 (nzl_n h2) ?_
      exact rtRl X hlk hr (so_i hf) dX10_both_111
    · have hf := it_t hf c1
      refine lv_lconst (v := (0 : Int64)) hx hb dX10_both_104 (by decide) ?_
      refine lv_goto (tgt := 111) hx hb dX10_both_105 (by decide) ?_
      exact rtRl X hlk hr (so_i hf) dX10_both_111
  have hf := it_f hf cs15
  have kd : W p l e (rmk 1) s m [.int p1, .long p2, .long p3].toArray below meth c s.heap [] 0 0 (MQ below (QRl res) [.int p1, .long p2, .long p3].toArray s 0 0 (NoF)) (F0 m 191 ls []) := by
    refine lv_lload_n hx hb dX10_both_191 rfl (lv_at hl 1 rfl) ?_
    refine lv_lload_n hx hb dX10_both_192 rfl (lv_at hl 2 rfl) ?_
    refine lv_lor hx hb dX10_both_193 ?_
    exact rtRl X hlk hr (so_i hf) dX10_both_194
  by_cases cs9 : p1 = (9 : Int32)
  · exact tbl_in hx hb dX10_both_1 cs9 (by decide) (by decide) rfl (tgt := 191) (by decide) kd
  by_cases cs11 : p1 = (11 : Int32)
  · exact tbl_in hx hb dX10_both_1 cs11 (by decide) (by decide) rfl (tgt := 191) (by decide) kd
  by_cases cs12 : p1 = (12 : Int32)
  · exact tbl_in hx hb dX10_both_1 cs12 (by decide) (by decide) rfl (tgt := 191) (by decide) kd
  refine lv_tableOut (tgt := 191) hx hb dX10_both_1 (sw_out (fun v h1 h2 => ?_)) (by decide) kd
  rcases (show v = 2 ∨ v = 3 ∨ v = 4 ∨ v = 5 ∨ v = 6 ∨ v = 7 ∨ v = 8 ∨ v = 9 ∨ v = 10 ∨ v = 11 ∨ v = 12 ∨ v = 13 ∨ v = 14 ∨ v = 15 by omega) with rfl | rfl | rfl | rfl | rfl | rfl | rfl | rfl | rfl | rfl | rfl | rfl | rfl | rfl
  · exact cs2
  · exact cs3
  · exact cs4
  · exact cs5
  · exact cs6
  · exact cs7
  · exact cs8
  · exact cs9
  · exact cs10
  · exact cs11
  · exact cs12
  · exact cs13
  · exact cs14
  · exact cs15
def fX10_answer_B77 (p1 : Int32) (p2 : Int32) (p3 : Int32) (k6 : Int32 → Int32 → St → Option (Int64 × St)) (y4 : Int32) (y5 : Int32) (z0 : Int64) (z1 : Int32) (st : St) : Option (Int64 × St) := gd (ix z1 300) (nm (ul st 549 z1.toNatClampNeg z0) (fun s2 => nm (y4 + (1 : Int32)) (fun x3 => nm (y5 + (1 : Int32)) (fun x4 => k6 x3 x4 s2))))
set_option maxRecDepth 100000 in
theorem wX10_answer_B77 {p : Program} {l : Launch} {e : Env} {s : State} {m : MethodId} {args : Array Value} {below : List Frame} {meth : Method} {c : Code} {E : Ev} (hL : ∀ k, fxM k = true → k ∈ eL E) {p1 : Int32} {p2 : Int32} {p3 : Int32} {sz : Nat} {res : (Int64 × St)} (X : CX p s m args c E RX10 cX10_answer 8 (Af E sz)) (hr : meth.sig.returnType = (some .long)) (hlk : meth.locks = false) {k6 : Int32 → Int32 → St → Option (Int64 × St)} (hk6 : ∀ (y4 : Int32) (y5 : Int32) (st : St) (H : Heap) (locs : List Loc), k6 y4 y5 st = some res → Gd E st (Af E sz) s H locs → ∀ ls : Array Slot, lv_has ls 8 [(0, .ref (eq E 500)), (1, .int p1), (3, .int p3), (4, .int y4), (5, .int y5)] → W p l e (rmk 2) s m args below meth c H locs 0 0 (MQ below (QWl E res.2 sz res.1) args s 0 0 (Af E sz)) (F0 m 6 ls [])) : ∀ (y4 : Int32) (y5 : Int32) (z0 : Int64) (z1 : Int32) (st : St) (H : Heap) (locs : List Loc), fX10_answer_B77 p1 p2 p3 k6 y4 y5 z0 z1 st = some res → Gd E st (Af E sz) s H locs → ∀ ls : Array Slot, lv_has ls 8 [(0, .ref (eq E 500)), (1, .int p1), (3, .int p3), (4, .int y4), (5, .int y5)] → W p l e (rmk 2) s m args below meth c H locs 0 0 (MQ below (QWl E res.2 sz res.1) args s 0 0 (Af E sz)) (F0 m 77 ls [.long z0, .int z1, .ref (eq E 549)]) := by
  have hx := X.1.1
  have hb := X.1.2.1
  intro y4 y5 z0 z1 st H locs hf G ls hl
  unfold fX10_answer_B77 at hf
  obtain ⟨h1, hf⟩ := gd_s hf
  refine la_st (k := 549) (n := 300) X G (hL 549 rfl) rfl (by decide) (ix_in h1) dX10_answer_77 (fun s2 es2 H locs G => ?_)
  have hf := nm_s hf s2 es2
  obtain ⟨x3, ex3⟩ : ∃ y : Int32, y = (y4 + (1 : Int32)) := ⟨_, rfl⟩
  have hf := nm_s hf x3 ex3
  refine lv_iinc (k := 3) (v := x3) (lv' := [(4, .int x3), (0, .ref (eq E 500)), (1, .int p1), (3, .int p3), (5, .int y5)]) hx hb dX10_answer_78 hl rfl (by rw [ex3]; rfl) (by decide) rfl (fun ls hl => ?_)
  refine lv_goto (tgt := 147) hx hb dX10_answer_81 (by decide) ?_
  obtain ⟨x4, ex4⟩ : ∃ y : Int32, y = (y5 + (1 : Int32)) := ⟨_, rfl⟩
  have hf := nm_s hf x4 ex4
  refine lv_iinc (k := 4) (v := x4) (lv' := [(5, .int x4), (4, .int x3), (0, .ref (eq E 500)), (1, .int p1), (3, .int p3)]) hx hb dX10_answer_147 hl rfl (by rw [ex4]; rfl) (by decide) rfl (fun ls hl => ?_)
  refine lv_goto (tgt := 6) hx hb dX10_answer_150 (by decide) ?_
  exact hk6 x3 x4 s2 _ _ hf G _ (lv_sub hl [2, 3, 4, 1, 0] rfl)
def fX10_answer_B53 (p1 : Int32) (p2 : Int32) (p3 : Int32) (k6 : Int32 → Int32 → St → Option (Int64 × St)) (y4 : Int32) (y5 : Int32) (y6 : Int32) (y7 : Int32) (st : St) : Option (Int64 × St) := if y6 = 0 then (fX10_answer_B77 p1 p2 p3 k6 y4 y5 (Int32.toInt64 y7) y4 st) else (gd (ix y7 12) (fX10_answer_B77 p1 p2 p3 k6 y4 y5 (st.2.1 548 y7.toNatClampNeg) y4 st))
set_option maxRecDepth 100000 in
theorem wX10_answer_B53 {p : Program} {l : Launch} {e : Env} {s : State} {m : MethodId} {args : Array Value} {below : List Frame} {meth : Method} {c : Code} {E : Ev} (hL : ∀ k, fxM k = true → k ∈ eL E) {p1 : Int32} {p2 : Int32} {p3 : Int32} {sz : Nat} {res : (Int64 × St)} (X : CX p s m args c E RX10 cX10_answer 8 (Af E sz)) (hr : meth.sig.returnType = (some .long)) (hlk : meth.locks = false) {k6 : Int32 → Int32 → St → Option (Int64 × St)} (hk6 : ∀ (y4 : Int32) (y5 : Int32) (st : St) (H : Heap) (locs : List Loc), k6 y4 y5 st = some res → Gd E st (Af E sz) s H locs → ∀ ls : Array Slot, lv_has ls 8 [(0, .ref (eq E 500)), (1, .int p1), (3, .int p3), (4, .int y4), (5, .int y5)] → W p l e (rmk 2) s m args below meth c H locs 0 0 (MQ below (QWl E res.2 sz res.1) args s 0 0 (Af E sz)) (F0 m 6 ls [])) : ∀ (y4 : Int32) (y5 : Int32) (y6 : Int32) (y7 : Int32) (st : St) (H : Heap) (locs : List Loc), fX10_answer_B53 p1 p2 p3 k6 y4 y5 y6 y7 st = some res → Gd E st (Af E sz) s H locs → ∀ ls : Array Slot, lv_has ls 8 [(0, .ref (eq E 500)), (1, .int p1), (3, .int p3), (4, .int y4), (5, .int y5), (6, .int y6), (7, .int y7)] → W p l e (rmk 2) s m args below meth c H locs 0 0 (MQ below (QWl E res.2 sz res.1) args s 0 0 (Af E sz)) (F0 m 53 ls []) := by
  have hx := X.1.1
  have hb := X.1.2.1
  intro y4 y5 y6 y7 st H locs hf G ls hl
  unfold fX10_answer_B53 at hf
  refine lv_aload_n hx hb dX10_answer_53 rfl (lv_at hl 0 rfl) ?_
  refine gf10 X G (hL 500 rfl) rfl 48 (by decide) rfl kf_X10_124 iwX10 dX10_answer_54 ?_
  refine lv_iload hx hb dX10_answer_57 (lv_at hl 3 rfl) ?_
  refine lv_iload hx hb dX10_answer_59 (lv_at hl 5 rfl) ?_
  refine lv_if_ne (tgt := 70) hx hb dX10_answer_61 (by decide) (fun c1 => ?_) (fun c1 => ?_)
  · have hf := it_f hf c1
    refine lv_aload_n hx hb dX10_answer_70 rfl (lv_at hl 0 rfl) ?_
    refine gf10 X G (hL 500 rfl) rfl 47 (by decide) rfl kf_X10_120 iwX10 dX10_answer_71 ?_
    refine lv_iload hx hb dX10_answer_74 (lv_at hl 6 rfl) ?_
    obtain ⟨h2, hf⟩ := gd_s hf
    refine la_ld (k := 548) (n := 12) X G (hL 548 rfl) rfl (by decide) (ix_in h2) dX10_answer_76 ?_
    exact wX10_answer_B77 hL X hr hlk hk6 y4 y5 (st.2.1 548 y7.toNatClampNeg) y4 st _ _ hf G _ (lv_sub hl [0, 1, 2, 3, 4] rfl)
  · have hf := it_t hf c1
    refine lv_iload hx hb dX10_answer_64 (lv_at hl 6 rfl) ?_
    refine lv_i2l hx hb dX10_answer_66 rfl ?_
    refine lv_goto (tgt := 77) hx hb dX10_answer_67 (by decide) ?_
    exact wX10_answer_B77 hL X hr hlk hk6 y4 y5 (Int32.toInt64 y7) y4 st _ _ hf G _ (lv_sub hl [0, 1, 2, 3, 4] rfl)
def fX10_answer_L6 (p1 : Int32) (p2 : Int32) (p3 : Int32) : Nat → Int32 → Int32 → St → Option (Int64 × St)
  | 0, _, _, _ => none
  | n + 1, y4, y5, st => if p3 ≤ y5 then (some ((st.2.1 549 0), st)) else (gd (ix (((300 : Int32) * p1) + y5) 1800) (nm (st.1 541 (((300 : Int32) * p1) + y5).toNatClampNeg) (fun x3 => gd (ix (((300 : Int32) * p1) + y5) 1800) (nm (st.1 542 (((300 : Int32) * p1) + y5).toNatClampNeg) (fun x5 => if x3 = 0 then (fX10_answer_B53 p1 p2 p3 (fX10_answer_L6 p1 p2 p3 n) y4 y5 x3 x5 st) else (if x3 = (1 : Int32) then (fX10_answer_B53 p1 p2 p3 (fX10_answer_L6 p1 p2 p3 n) y4 y5 x3 x5 st) else (if x3 = (9 : Int32) then (gd (ix (y4 - (1 : Int32)) 300) (gd (ix (y4 - (1 : Int32)) 300) (nm (ul st 549 (y4 - (1 : Int32)).toNatClampNeg ((1 : Int64) - (st.2.1 549 (y4 - (1 : Int32)).toNatClampNeg))) (fun s11 => nm (y5 + (1 : Int32)) (fun x12 => (fX10_answer_L6 p1 p2 p3 n) y4 x12 s11))))) else (nm (y4 + (-1 : Int32)) (fun x9 => gd (ix (x9 - (1 : Int32)) 300) (gd (ix x9 300) (br (fX10_both x3 (st.2.1 549 (x9 - (1 : Int32)).toNatClampNeg) (st.2.1 549 x9.toNatClampNeg)) (fun x13 => gd (ix (x9 - (1 : Int32)) 300) (nm (ul st 549 (x9 - (1 : Int32)).toNatClampNeg x13) (fun s15 => nm (y5 + (1 : Int32)) (fun x16 => (fX10_answer_L6 p1 p2 p3 n) x9 x16 s15)))))))))))))))
set_option maxRecDepth 100000 in
theorem wX10_answer_L6 {p : Program} {l : Launch} {e : Env} {s : State} {m : MethodId} {args : Array Value} {below : List Frame} {meth : Method} {c : Code} {E : Ev} (hL : ∀ k, fxM k = true → k ∈ eL E) {p1 : Int32} {p2 : Int32} {p3 : Int32} {sz : Nat} {res : (Int64 × St)} (X : CX p s m args c E RX10 cX10_answer 8 (Af E sz)) (hr : meth.sig.returnType = (some .long)) (hlk : meth.locks = false) : ∀ (n : Nat) (y4 : Int32) (y5 : Int32) (st : St) (H : Heap) (locs : List Loc), fX10_answer_L6 p1 p2 p3  n y4 y5 st = some res → Gd E st (Af E sz) s H locs → ∀ ls : Array Slot, lv_has ls 8 [(0, .ref (eq E 500)), (1, .int p1), (3, .int p3), (4, .int y4), (5, .int y5)] → W p l e (rmk 2) s m args below meth c H locs 0 0 (MQ below (QWl E res.2 sz res.1) args s 0 0 (Af E sz)) (F0 m 6 ls []) := by
  have hx := X.1.1
  have hb := X.1.2.1
  intro n
  induction n with
  | zero =>
    intro y4 y5 st H locs hf G ls hl
    cases (show (none : Option (Int64 × St)) = some res from hf)
  | succ n ih =>
    intro y4 y5 st H locs hf G ls hl
    rw [fX10_answer_L6] at hf
    refine lv_iload hx hb dX10_answer_6 (lv_at hl 4 rfl) ?_
    refine lv_iload_n hx hb dX10_answer_8 rfl (lv_at hl 2 rfl) ?_
    refine lv_icmp_ge (tgt := 153) hx hb dX10_answer_9 (by decide) (fun c1 => ?_) (fun c1 => ?_)
    · have hf := it_t hf c1
      refine lv_aload_n hx hb dX10_answer_153 rfl (lv_at hl 0 rfl) ?_
      refine gf10 X G (hL 500 rfl) rfl 48 (by decide) rfl kf_X10_124 iwX10 dX10_answer_154 ?_
      refine lv_iconst (v := (0 : Int32)) hx hb dX10_answer_157 (by decide) ?_
      refine la_ldc (k := 549) (n := 300) X G (hL 549 rfl) rfl (by decide) 0 (by decide) dX10_answer_158 ?_
      exact rtWl X hlk G hr (so_i hf) dX10_answer_159
    · have hf := it_f hf c1
      refine lv_aload_n hx hb dX10_answer_12 rfl (lv_at hl 0 rfl) ?_
      refine gf10 X G (hL 500 rfl) rfl 40 (by decide) rfl kf_X10_99 iwX10 dX10_answer_13 ?_
      refine lv_sipush (v := (300 : Int32)) hx hb dX10_answer_16 (by decide) ?_
      refine lv_iload_n hx hb dX10_answer_19 rfl (lv_at hl 1 rfl) ?_
      refine lv_imul hx hb dX10_answer_20 ?_
      refine lv_iload hx hb dX10_answer_21 (lv_at hl 4 rfl) ?_
      refine lv_iadd hx hb dX10_answer_23 ?_
      obtain ⟨h2, hf⟩ := gd_s hf
      refine ia_ld (k := 541) (n := 1800) X G (hL 541 rfl) rfl (by decide) (ix_in h2) dX10_answer_24 ?_
      refine lv_topi (fun x3 ex3 => ?_)
      have hf := nm_s hf x3 ex3
      refine lv_istore (lv' := [(6, .int x3), (0, .ref (eq E 500)), (1, .int p1), (3, .int p3), (4, .int y4), (5, .int y5)]) hx hb dX10_answer_25 hl (by decide) rfl (fun ls hl => ?_)
      refine lv_aload_n hx hb dX10_answer_27 rfl (lv_at hl 1 rfl) ?_
      refine gf10 X G (hL 500 rfl) rfl 41 (by decide) rfl kf_X10_102 iwX10 dX10_answer_28 ?_
      refine lv_sipush (v := (300 : Int32)) hx hb dX10_answer_31 (by decide) ?_
      refine lv_iload_n hx hb dX10_answer_34 rfl (lv_at hl 2 rfl) ?_
      refine lv_imul hx hb dX10_answer_35 ?_
      refine lv_iload hx hb dX10_answer_36 (lv_at hl 5 rfl) ?_
      refine lv_iadd hx hb dX10_answer_38 ?_
      obtain ⟨h4, hf⟩ := gd_s hf
      refine ia_ld (k := 542) (n := 1800) X G (hL 542 rfl) rfl (by decide) (ix_in h4) dX10_answer_39 ?_
      refine lv_topi (fun x5 ex5 => ?_)
      have hf := nm_s hf x5 ex5
      refine lv_istore (lv' := [(7, .int x5), (6, .int x3), (0, .ref (eq E 500)), (1, .int p1), (3, .int p3), (4, .int y4), (5, .int y5)]) hx hb dX10_answer_40 hl (by decide) rfl (fun ls hl => ?_)
      refine lv_iload hx hb dX10_answer_42 (lv_at hl 1 rfl) ?_
      refine lv_if_eq (tgt := 53) hx hb dX10_answer_44 (by decide) (fun c6 => ?_) (fun c6 => ?_)
      · have hf := it_t hf c6
        exact wX10_answer_B53 hL X hr hlk ih y4 y5 x3 x5 st _ _ hf G _ (lv_sub hl [2, 3, 4, 5, 6, 1, 0] rfl)
      · have hf := it_f hf c6
        refine lv_iload hx hb dX10_answer_47 (lv_at hl 1 rfl) ?_
        refine lv_iconst (v := (1 : Int32)) hx hb dX10_answer_49 (by decide) ?_
        refine lv_icmp_ne (tgt := 84) hx hb dX10_answer_50 (by decide) (fun c7 => ?_) (fun c7 => ?_)
        · have hf := it_f hf c7
          refine lv_iload hx hb dX10_answer_84 (lv_at hl 1 rfl) ?_
          refine lv_bipush (v := (9 : Int32)) hx hb dX10_answer_86 (by decide) ?_
          refine lv_icmp_ne (tgt := 114) hx hb dX10_answer_88 (by decide) (fun c8 => ?_) (fun c8 => ?_)
          · have hf := it_f hf c8
            obtain ⟨x9, ex9⟩ : ∃ y : Int32, y = (y4 + (-1 : Int32)) := ⟨_, rfl⟩
            have hf := nm_s hf x9 ex9
            refine lv_iinc (k := 5) (v := x9) (lv' := [(4, .int x9), (7, .int x5), (6, .int x3), (0, .ref (eq E 500)), (1, .int p1), (3, .int p3), (5, .int y5)]) hx hb dX10_answer_114 hl rfl (by rw [ex9]; rfl) (by decide) rfl (fun ls hl => ?_)
            refine lv_aload_n hx hb dX10_answer_117 rfl (lv_at hl 3 rfl) ?_
            refine gf10 X G (hL 500 rfl) rfl 48 (by decide) rfl kf_X10_124 iwX10 dX10_answer_118 ?_
            refine lv_iload hx hb dX10_answer_121 (lv_at hl 0 rfl) ?_
            refine lv_iconst (v := (1 : Int32)) hx hb dX10_answer_123 (by decide) ?_
            refine lv_isub hx hb dX10_answer_124 ?_
            refine lv_iload hx hb dX10_answer_125 (lv_at hl 2 rfl) ?_
            refine lv_aload_n hx hb dX10_answer_127 rfl (lv_at hl 3 rfl) ?_
            refine gf10 X G (hL 500 rfl) rfl 48 (by decide) rfl kf_X10_124 iwX10 dX10_answer_128 ?_
            refine lv_iload hx hb dX10_answer_131 (lv_at hl 0 rfl) ?_
            refine lv_iconst (v := (1 : Int32)) hx hb dX10_answer_133 (by decide) ?_
            refine lv_isub hx hb dX10_answer_134 ?_
            obtain ⟨h10, hf⟩ := gd_s hf
            refine la_ld (k := 549) (n := 300) X G (hL 549 rfl) rfl (by decide) (ix_in h10) dX10_answer_135 ?_
            refine lv_aload_n hx hb dX10_answer_136 rfl (lv_at hl 3 rfl) ?_
            refine gf10 X G (hL 500 rfl) rfl 48 (by decide) rfl kf_X10_124 iwX10 dX10_answer_137 ?_
            refine lv_iload hx hb dX10_answer_140 (lv_at hl 0 rfl) ?_
            obtain ⟨h11, hf⟩ := gd_s hf
            refine la_ld (k := 549) (n := 300) X G (hL 549 rfl) rfl (by decide) (ix_in h11) dX10_answer_142 ?_
            obtain ⟨x13, h12, hf⟩ := br_s hf
            refine cSRl (As := [.int x3, .long (st.2.1 549 (x9 - (1 : Int32)).toNatClampNeg), .long (st.2.1 549 x9.toNatClampNeg)]) (rest := [.int (x9 - (1 : Int32)), .ref (eq E 549)]) X G kc_X10_363 (tX10_both l E st _  x3 (st.2.1 549 (x9 - (1 : Int32)).toNatClampNeg) (st.2.1 549 x9.toNatClampNeg) h12) rfl rfl (rmk_le (by omega) (by decide)) rfl hl.1 rfl (Nat.le_of_ble_eq_true rfl) dX10_answer_143 ⟨Nat.zero_le _, Nat.zero_le _⟩ ?_
            obtain ⟨h14, hf⟩ := gd_s hf
            refine la_st (k := 549) (n := 300) X G (hL 549 rfl) rfl (by decide) (ix_in h14) dX10_answer_146 (fun s15 es15 H locs G => ?_)
            have hf := nm_s hf s15 es15
            obtain ⟨x16, ex16⟩ : ∃ y : Int32, y = (y5 + (1 : Int32)) := ⟨_, rfl⟩
            have hf := nm_s hf x16 ex16
            refine lv_iinc (k := 6) (v := x16) (lv' := [(5, .int x16), (4, .int x9), (7, .int x5), (6, .int x3), (0, .ref (eq E 500)), (1, .int p1), (3, .int p3)]) hx hb dX10_answer_147 hl rfl (by rw [ex16]; rfl) (by decide) rfl (fun ls hl => ?_)
            refine lv_goto (tgt := 6) hx hb dX10_answer_150 (by decide) ?_
            exact ih x9 x16 s15 _ _ hf G _ (lv_sub hl [4, 5, 6, 1, 0] rfl)
          · have hf := it_t hf c8
            refine lv_aload_n hx hb dX10_answer_91 rfl (lv_at hl 2 rfl) ?_
            refine gf10 X G (hL 500 rfl) rfl 48 (by decide) rfl kf_X10_124 iwX10 dX10_answer_92 ?_
            refine lv_iload hx hb dX10_answer_95 (lv_at hl 5 rfl) ?_
            refine lv_iconst (v := (1 : Int32)) hx hb dX10_answer_97 (by decide) ?_
            refine lv_isub hx hb dX10_answer_98 ?_
            refine lv_lconst (v := (1 : Int64)) hx hb dX10_answer_99 (by decide) ?_
            refine lv_aload_n hx hb dX10_answer_100 rfl (lv_at hl 2 rfl) ?_
            refine gf10 X G (hL 500 rfl) rfl 48 (by decide) rfl kf_X10_124 iwX10 dX10_answer_101 ?_
            refine lv_iload hx hb dX10_answer_104 (lv_at hl 5 rfl) ?_
            refine lv_iconst (v := (1 : Int32)) hx hb dX10_answer_106 (by decide) ?_
            refine lv_isub hx hb dX10_answer_107 ?_
            obtain ⟨h9, hf⟩ := gd_s hf
            refine la_ld (k := 549) (n := 300) X G (hL 549 rfl) rfl (by decide) (ix_in h9) dX10_answer_108 ?_
            refine lv_lsub hx hb dX10_answer_109 ?_
            obtain ⟨h10, hf⟩ := gd_s hf
            refine la_st (k := 549) (n := 300) X G (hL 549 rfl) rfl (by decide) (ix_in h10) dX10_answer_110 (fun s11 es11 H locs G => ?_)
            have hf := nm_s hf s11 es11
            refine lv_goto (tgt := 147) hx hb dX10_answer_111 (by decide) ?_
            obtain ⟨x12, ex12⟩ : ∃ y : Int32, y = (y5 + (1 : Int32)) := ⟨_, rfl⟩
            have hf := nm_s hf x12 ex12
            refine lv_iinc (k := 6) (v := x12) (lv' := [(5, .int x12), (7, .int x5), (6, .int x3), (0, .ref (eq E 500)), (1, .int p1), (3, .int p3), (4, .int y4)]) hx hb dX10_answer_147 hl rfl (by rw [ex12]; rfl) (by decide) rfl (fun ls hl => ?_)
            refine lv_goto (tgt := 6) hx hb dX10_answer_150 (by decide) ?_
            exact ih y4 x12 s11 _ _ hf G _ (lv_sub hl [3, 4, 5, 6, 0] rfl)
        · have hf := it_t hf c7
          exact wX10_answer_B53 hL X hr hlk ih y4 y5 x3 x5 st _ _ hf G _ (lv_sub hl [2, 3, 4, 5, 6, 1, 0] rfl)
def fX10_answer (p1 : Int32) (p2 : Int32) (p3 : Int32) (st : St) : Option (Int64 × St) := fX10_answer_L6 p1 p2 p3 10000 (0 : Int32) p2 st
set_option maxRecDepth 100000 in
theorem tX10_answer (l : Launch) (E : Ev) (st : St) (sz : Nat) (hL : ∀ k, fxM k = true → k ∈ eL E) (p1 : Int32) (p2 : Int32) (p3 : Int32) {res : (Int64 × St)} (hf : fX10_answer  p1 p2 p3 st = some res) : Met l yX10_answer (.code yX10_answer cX10_answer 8 (some .long) :: uW) (rmk 2) (va_Pc [.ref (eq E 500), .int p1, .int p2, .int p3] (Pre E st sz)) (QWl E res.2 sz res.1) 0 0 (Af E sz) := by
  refine Met_in (by decide) (Nat.le_of_ble_eq_true rfl) ?_
  intro p e s m below meth c X hr hlk hz G ls hl
  have hx := X.1.1
  have hb := X.1.2.1
  have hl : lv_has ls 8 [(0, .ref (eq E 500)), (1, .int p1), (2, .int p2), (3, .int p3)] := hl
  unfold fX10_answer at hf
  refine lv_iconst (v := (0 : Int32)) hx hb dX10_answer_0 (by decide) ?_
  refine lv_istore (lv' := [(4, .int (0 : Int32)), (0, .ref (eq E 500)), (1, .int p1), (2, .int p2), (3, .int p3)]) hx hb dX10_answer_1 hl (by decide) rfl (fun ls hl => ?_)
  refine lv_iload_n hx hb dX10_answer_3 rfl (lv_at hl 3 rfl) ?_
  refine lv_istore (lv' := [(5, .int p2), (4, .int (0 : Int32)), (0, .ref (eq E 500)), (1, .int p1), (2, .int p2), (3, .int p3)]) hx hb dX10_answer_4 hl (by decide) rfl (fun ls hl => ?_)
  exact wX10_answer_L6 hL X hr hlk 10000 (0 : Int32) p2 st _ _ hf G _ (lv_sub hl [2, 3, 5, 1, 0] rfl)
def fX10_wanted_B65 (y1 : Int32) (y2 : Int32) (st : St) : Option (Int64 × St) := gd (ix y2 72) (gd (ix y2 72) (bw (fX10_answer y1 (st.1 544 y2.toNatClampNeg) (st.1 545 y2.toNatClampNeg) st) (fun x5 s4 => some (x5, s4))))
set_option maxRecDepth 100000 in
theorem wX10_wanted_B65 {p : Program} {l : Launch} {e : Env} {s : State} {m : MethodId} {args : Array Value} {below : List Frame} {meth : Method} {c : Code} {E : Ev} (hL : ∀ k, fxM k = true → k ∈ eL E) {sz : Nat} {res : (Int64 × St)} (X : CX p s m args c E RX10 cX10_wanted 3 (Af E sz)) (hr : meth.sig.returnType = (some .long)) (hlk : meth.locks = false) : ∀ (y1 : Int32) (y2 : Int32) (st : St) (H : Heap) (locs : List Loc), fX10_wanted_B65   y1 y2 st = some res → Gd E st (Af E sz) s H locs → ∀ ls : Array Slot, lv_has ls 3 [(0, .ref (eq E 500)), (1, .int y1), (2, .int y2)] → W p l e (rmk 3) s m args below meth c H locs 0 0 (MQ below (QWl E res.2 sz res.1) args s 0 0 (Af E sz)) (F0 m 65 ls []) := by
  have hx := X.1.1
  have hb := X.1.2.1
  intro y1 y2 st H locs hf G ls hl
  unfold fX10_wanted_B65 at hf
  refine lv_aload_n hx hb dX10_wanted_65 rfl (lv_at hl 0 rfl) ?_
  refine lv_iload_n hx hb dX10_wanted_66 rfl (lv_at hl 1 rfl) ?_
  refine lv_aload_n hx hb dX10_wanted_67 rfl (lv_at hl 0 rfl) ?_
  refine gf10 X G (hL 500 rfl) rfl 43 (by decide) rfl kf_X10_108 iwX10 dX10_wanted_68 ?_
  refine lv_iload_n hx hb dX10_wanted_71 rfl (lv_at hl 2 rfl) ?_
  obtain ⟨h1, hf⟩ := gd_s hf
  refine ia_ld (k := 544) (n := 72) X G (hL 544 rfl) rfl (by decide) (ix_in h1) dX10_wanted_72 ?_
  refine lv_aload_n hx hb dX10_wanted_73 rfl (lv_at hl 0 rfl) ?_
  refine gf10 X G (hL 500 rfl) rfl 44 (by decide) rfl kf_X10_111 iwX10 dX10_wanted_74 ?_
  refine lv_iload_n hx hb dX10_wanted_77 rfl (lv_at hl 2 rfl) ?_
  obtain ⟨h2, hf⟩ := gd_s hf
  refine ia_ld (k := 545) (n := 72) X G (hL 545 rfl) rfl (by decide) (ix_in h2) dX10_wanted_78 ?_
  obtain ⟨x5, s4, h3, hf⟩ := bw_s hf
  refine cVWl (As := [.int y1, .int (st.1 544 y2.toNatClampNeg), .int (st.1 545 y2.toNatClampNeg)]) (rest := []) X G kc_X10_355 (tX10_answer l E st _ hL  y1 (st.1 544 y2.toNatClampNeg) (st.1 545 y2.toNatClampNeg) h3) (rcv X G (hL 500 rfl) (cO10 rfl) rfl) rfl rfl (rmk_le (by omega) (by decide)) rfl hl.1 rfl (Nat.le_of_ble_eq_true rfl) dX10_wanted_79 ⟨Nat.zero_le _, Nat.zero_le _⟩ (fun H locs G => ?_)
  exact rtWl X hlk G hr (so_i hf) dX10_wanted_82
def fX10_wanted_L13 : Nat → Int32 → Int32 → St → Option (Int64 × St)
  | 0, _, _, _ => none
  | n + 1, y1, y2, st => gd (ix y1 6) (if (((12 : Int32) * y1) + (st.1 543 y1.toNatClampNeg)) ≤ y2 then (some ((0 : Int64), st)) else (gd (ix y2 72) (gd (ix y2 72) (if (st.1 545 y2.toNatClampNeg) = (st.1 546 y2.toNatClampNeg) then (fX10_wanted_B65 y1 y2 st) else (gd (ix y2 72) (gd (ix y2 72) (bw (fX10_answer y1 (st.1 545 y2.toNatClampNeg) (st.1 546 y2.toNatClampNeg) st) (fun x10 s9 => if (lg_cmp x10 (1 : Int64)) = 0 then (fX10_wanted_B65 y1 y2 s9) else (nm (y2 + (1 : Int32)) (fun x12 => (fX10_wanted_L13 n) y1 x12 s9))))))))))
set_option maxRecDepth 100000 in
theorem wX10_wanted_L13 {p : Program} {l : Launch} {e : Env} {s : State} {m : MethodId} {args : Array Value} {below : List Frame} {meth : Method} {c : Code} {E : Ev} (hL : ∀ k, fxM k = true → k ∈ eL E) {sz : Nat} {res : (Int64 × St)} (X : CX p s m args c E RX10 cX10_wanted 3 (Af E sz)) (hr : meth.sig.returnType = (some .long)) (hlk : meth.locks = false) : ∀ (n : Nat) (y1 : Int32) (y2 : Int32) (st : St) (H : Heap) (locs : List Loc), fX10_wanted_L13   n y1 y2 st = some res → Gd E st (Af E sz) s H locs → ∀ ls : Array Slot, lv_has ls 3 [(0, .ref (eq E 500)), (1, .int y1), (2, .int y2)] → W p l e (rmk 3) s m args below meth c H locs 0 0 (MQ below (QWl E res.2 sz res.1) args s 0 0 (Af E sz)) (F0 m 13 ls []) := by
  have hx := X.1.1
  have hb := X.1.2.1
  intro n
  induction n with
  | zero =>
    intro y1 y2 st H locs hf G ls hl
    cases (show (none : Option (Int64 × St)) = some res from hf)
  | succ n ih =>
    intro y1 y2 st H locs hf G ls hl
    rw [fX10_wanted_L13] at hf
    refine lv_iload_n hx hb dX10_wanted_13 rfl (lv_at hl 2 rfl) ?_
    refine lv_bipush (v := (12 : Int32)) hx hb dX10_wanted_14 (by decide) ?_
    refine lv_iload_n hx hb dX10_wanted_16 rfl (lv_at hl 1 rfl) ?_
    refine lv_imul hx hb dX10_wanted_17 ?_
    refine lv_aload_n hx hb dX10_wanted_18 rfl (lv_at hl 0 rfl) ?_
    refine gf10 X G (hL 500 rfl) rfl 42 (by decide) rfl kf_X10_105 iwX10 dX10_wanted_19 ?_
    refine lv_iload_n hx hb dX10_wanted_22 rfl (lv_at hl 1 rfl) ?_
    obtain ⟨h1, hf⟩ := gd_s hf
    refine ia_ld (k := 543) (n := 6) X G (hL 543 rfl) rfl (by decide) (ix_in h1) dX10_wanted_23 ?_
    refine lv_iadd hx hb dX10_wanted_24 ?_
    refine lv_icmp_ge (tgt := 89) hx hb dX10_wanted_25 (by decide) (fun c2 => ?_) (fun c2 => ?_)
    · have hf := it_t hf c2
      refine lv_lconst (v := (0 : Int64)) hx hb dX10_wanted_89 (by decide) ?_
      exact rtWl X hlk G hr (so_i hf) dX10_wanted_90
    · have hf := it_f hf c2
      refine lv_aload_n hx hb dX10_wanted_28 rfl (lv_at hl 0 rfl) ?_
      refine gf10 X G (hL 500 rfl) rfl 44 (by decide) rfl kf_X10_111 iwX10 dX10_wanted_29 ?_
      refine lv_iload_n hx hb dX10_wanted_32 rfl (lv_at hl 2 rfl) ?_
      obtain ⟨h3, hf⟩ := gd_s hf
      refine ia_ld (k := 545) (n := 72) X G (hL 545 rfl) rfl (by decide) (ix_in h3) dX10_wanted_33 ?_
      refine lv_aload_n hx hb dX10_wanted_34 rfl (lv_at hl 0 rfl) ?_
      refine gf10 X G (hL 500 rfl) rfl 45 (by decide) rfl kf_X10_114 iwX10 dX10_wanted_35 ?_
      refine lv_iload_n hx hb dX10_wanted_38 rfl (lv_at hl 2 rfl) ?_
      obtain ⟨h4, hf⟩ := gd_s hf
      refine ia_ld (k := 546) (n := 72) X G (hL 546 rfl) rfl (by decide) (ix_in h4) dX10_wanted_39 ?_
      refine lv_icmp_eq (tgt := 65) hx hb dX10_wanted_40 (by decide) (fun c5 => ?_) (fun c5 => ?_)
      · have hf := it_t hf c5
        exact wX10_wanted_B65 hL X hr hlk y1 y2 st _ _ hf G _ (lv_sub hl [0, 1, 2] rfl)
      · have hf := it_f hf c5
        refine lv_aload_n hx hb dX10_wanted_43 rfl (lv_at hl 0 rfl) ?_
        refine lv_iload_n hx hb dX10_wanted_44 rfl (lv_at hl 1 rfl) ?_
        refine lv_aload_n hx hb dX10_wanted_45 rfl (lv_at hl 0 rfl) ?_
        refine gf10 X G (hL 500 rfl) rfl 44 (by decide) rfl kf_X10_111 iwX10 dX10_wanted_46 ?_
        refine lv_iload_n hx hb dX10_wanted_49 rfl (lv_at hl 2 rfl) ?_
        obtain ⟨h6, hf⟩ := gd_s hf
        refine ia_ld (k := 545) (n := 72) X G (hL 545 rfl) rfl (by decide) (ix_in h6) dX10_wanted_50 ?_
        refine lv_aload_n hx hb dX10_wanted_51 rfl (lv_at hl 0 rfl) ?_
        refine gf10 X G (hL 500 rfl) rfl 45 (by decide) rfl kf_X10_114 iwX10 dX10_wanted_52 ?_
        refine lv_iload_n hx hb dX10_wanted_55 rfl (lv_at hl 2 rfl) ?_
        obtain ⟨h7, hf⟩ := gd_s hf
        refine ia_ld (k := 546) (n := 72) X G (hL 546 rfl) rfl (by decide) (ix_in h7) dX10_wanted_56 ?_
        obtain ⟨x10, s9, h8, hf⟩ := bw_s hf
        refine cVWl (As := [.int y1, .int (st.1 545 y2.toNatClampNeg), .int (st.1 546 y2.toNatClampNeg)]) (rest := []) X G kc_X10_355 (tX10_answer l E st _ hL  y1 (st.1 545 y2.toNatClampNeg) (st.1 546 y2.toNatClampNeg) h8) (rcv X G (hL 500 rfl) (cO10 rfl) rfl) rfl rfl (rmk_le (by omega) (by decide)) rfl hl.1 rfl (Nat.le_of_ble_eq_true rfl) dX10_wanted_57 ⟨Nat.zero_le _, Nat.zero_le _⟩ (fun H locs G => ?_)
        refine lv_lconst (v := (1 : Int64)) hx hb dX10_wanted_60 (by decide) ?_
        refine W.lcmp hx hb dX10_wanted_61 ?_
        refine lv_if_ne (tgt := 83) hx hb dX10_wanted_62 (by decide) (fun c11 => ?_) (fun c11 => ?_)
        · have hf := it_f hf c11
          obtain ⟨x12, ex12⟩ : ∃ y : Int32, y = (y2 + (1 : Int32)) := ⟨_, rfl⟩
          have hf := nm_s hf x12 ex12
          refine lv_iinc (k := 2) (v := x12) (lv' := [(2, .int x12), (0, .ref (eq E 500)), (1, .int y1)]) hx hb dX10_wanted_83 hl rfl (by rw [ex12]; rfl) (by decide) rfl (fun ls hl => ?_)
          refine lv_goto (tgt := 13) hx hb dX10_wanted_86 (by decide) ?_
          exact ih y1 x12 s9 _ _ hf G _ (lv_sub hl [1, 2, 0] rfl)
        · have hf := it_t hf c11
          exact wX10_wanted_B65 hL X hr hlk y1 y2 s9 _ _ hf G _ (lv_sub hl [0, 1, 2] rfl)
def fX10_wanted (st : St) : Option (Int64 × St) := nm (st.1 502 11) (fun x2 => nm ((12 : Int32) * x2) (fun x3 => fX10_wanted_L13 10000 x2 x3 st))
set_option maxRecDepth 100000 in
theorem tX10_wanted (l : Launch) (E : Ev) (st : St) (sz : Nat) (hL : ∀ k, fxM k = true → k ∈ eL E)  {res : (Int64 × St)} (hf : fX10_wanted   st = some res) : Met l yX10_wanted (.code yX10_wanted cX10_wanted 3 (some .long) :: uW) (rmk 3) (va_Pc [.ref (eq E 500)] (Pre E st sz)) (QWl E res.2 sz res.1) 0 0 (Af E sz) := by
  refine Met_in (by decide) (Nat.le_of_ble_eq_true rfl) ?_
  intro p e s m below meth c X hr hlk hz G ls hl
  have hx := X.1.1
  have hb := X.1.2.1
  have hl : lv_has ls 3 [(0, .ref (eq E 500))] := hl
  unfold fX10_wanted at hf
  refine lv_aload_n hx hb dX10_wanted_0 rfl (lv_at hl 0 rfl) ?_
  refine gf10 X G (hL 500 rfl) rfl 1 (by decide) rfl kf_X10_9 iwX10 dX10_wanted_1 ?_
  refine lv_bipush (v := (11 : Int32)) hx hb dX10_wanted_4 (by decide) ?_
  refine ia_ldc (k := 502) (n := 12) X G (hL 502 rfl) rfl (by decide) 11 (by decide) dX10_wanted_6 ?_
  refine lv_topi (fun x2 ex2 => ?_)
  have hf := nm_s hf x2 ex2
  refine lv_istore_n (lv' := [(1, .int x2), (0, .ref (eq E 500))]) hx hb dX10_wanted_7 rfl hl (by decide) rfl (fun ls hl => ?_)
  refine lv_bipush (v := (12 : Int32)) hx hb dX10_wanted_8 (by decide) ?_
  refine lv_iload_n hx hb dX10_wanted_10 rfl (lv_at hl 0 rfl) ?_
  refine lv_imul hx hb dX10_wanted_11 ?_
  refine lv_topi (fun x3 ex3 => ?_)
  have hf := nm_s hf x3 ex3
  refine lv_istore_n (lv' := [(2, .int x3), (1, .int x2), (0, .ref (eq E 500))]) hx hb dX10_wanted_12 rfl hl (by decide) rfl (fun ls hl => ?_)
  exact wX10_wanted_L13 hL X hr hlk 10000 x2 x3 st _ _ hf G _ (lv_sub hl [2, 1, 0] rfl)
def fX10_house (st : St) (p1 : Int32) (p2 : Int32) : Option Int32 := br (fX10_isHouse st p1) (fun x2 => if x2 = 0 then (some (-2 : Int32)) else (if p2 = (0 : Int32) then (gd (ix p1 8) (some (st.1 503 p1.toNatClampNeg))) else (if p2 = (1 : Int32) then (gd (ix p1 8) (some (st.1 504 p1.toNatClampNeg))) else (if p2 = (2 : Int32) then (gd (ix p1 8) (some (st.1 505 p1.toNatClampNeg))) else (if p2 = (3 : Int32) then (gd (ix p1 8) (some (st.1 506 p1.toNatClampNeg))) else (if p2 = (4 : Int32) then (br (fX10_isFrozen st p1) (fun x5 => if x5 = 0 then (some (0 : Int32)) else (some (1 : Int32)))) else (if p2 = (5 : Int32) then (gd (ix p1 8) (some (st.1 507 p1.toNatClampNeg))) else (if p2 = (6 : Int32) then (gd (ix p1 8) (some (st.1 508 p1.toNatClampNeg))) else (some (-2 : Int32))))))))))
set_option maxRecDepth 100000 in
theorem tX10_house (l : Launch) (E : Ev) (st : St) (sz : Nat) (hL : ∀ k, fxM k = true → k ∈ eL E) (p1 : Int32) (p2 : Int32) {res : Int32} (hf : fX10_house st p1 p2 = some res) : Met l yX10_house (.code yX10_house cX10_house 3 (some .int) :: uW) (rmk 2) (va_Pc [.ref (eq E 500), .int p1, .int p2] (Pre E st sz)) (QRi res) 0 0 (NoF) := by
  refine Met_in (by decide) (Nat.le_of_ble_eq_true rfl) ?_
  intro p e s m below meth c X hr hlk hz G ls hl
  have hx := X.1.1
  have hb := X.1.2.1
  have hl : lv_has ls 3 [(0, .ref (eq E 500)), (1, .int p1), (2, .int p2)] := hl
  unfold fX10_house at hf
  refine lv_aload_n hx hb dX10_house_0 rfl (lv_at hl 0 rfl) ?_
  refine lv_iload_n hx hb dX10_house_1 rfl (lv_at hl 1 rfl) ?_
  obtain ⟨x2, h1, hf⟩ := br_s hf
  refine cVRi (As := [.int p1]) (rest := []) X G kc_X10_367 (tX10_isHouse l E st _ hL  p1 h1) (rcv X G (hL 500 rfl) (cO10 rfl) rfl) rfl rfl (rmk_le (by omega) (by decide)) rfl hl.1 rfl (Nat.le_of_ble_eq_true rfl) dX10_house_2 ⟨Nat.zero_le _, Nat.zero_le _⟩ ?_
  refine lv_if_ne (tgt := 11) hx hb dX10_house_5 (by decide) (fun c3 => ?_) (fun c3 => ?_)
  · have hf := it_f hf c3
    refine lv_iload_n hx hb dX10_house_11 rfl (lv_at hl 2 rfl) ?_
    by_cases cs0 : p2 = (0 : Int32)
    · have hf := it_t hf cs0
      refine tbl_in hx hb dX10_house_12 cs0 (by decide) (by decide) rfl (tgt := 56) (by decide) ?_
      refine lv_aload_n hx hb dX10_house_56 rfl (lv_at hl 0 rfl) ?_
      refine gf10 X G (hL 500 rfl) rfl 2 (by decide) rfl kf_X10_13 iwX10 dX10_house_57 ?_
      refine lv_iload_n hx hb dX10_house_60 rfl (lv_at hl 1 rfl) ?_
      obtain ⟨h4, hf⟩ := gd_s hf
      refine ia_ld (k := 503) (n := 8) X G (hL 503 rfl) rfl (by decide) (ix_in h4) dX10_house_61 ?_
      exact rtRi X hlk hr (so_i hf) dX10_house_62
    have hf := it_f hf cs0
    by_cases cs1 : p2 = (1 : Int32)
    · have hf := it_t hf cs1
      refine tbl_in hx hb dX10_house_12 cs1 (by decide) (by decide) rfl (tgt := 63) (by decide) ?_
      refine lv_aload_n hx hb dX10_house_63 rfl (lv_at hl 0 rfl) ?_
      refine gf10 X G (hL 500 rfl) rfl 3 (by decide) rfl kf_X10_16 iwX10 dX10_house_64 ?_
      refine lv_iload_n hx hb dX10_house_67 rfl (lv_at hl 1 rfl) ?_
      obtain ⟨h4, hf⟩ := gd_s hf
      refine ia_ld (k := 504) (n := 8) X G (hL 504 rfl) rfl (by decide) (ix_in h4) dX10_house_68 ?_
      exact rtRi X hlk hr (so_i hf) dX10_house_69
    have hf := it_f hf cs1
    by_cases cs2 : p2 = (2 : Int32)
    · have hf := it_t hf cs2
      refine tbl_in hx hb dX10_house_12 cs2 (by decide) (by decide) rfl (tgt := 70) (by decide) ?_
      refine lv_aload_n hx hb dX10_house_70 rfl (lv_at hl 0 rfl) ?_
      refine gf10 X G (hL 500 rfl) rfl 4 (by decide) rfl kf_X10_19 iwX10 dX10_house_71 ?_
      refine lv_iload_n hx hb dX10_house_74 rfl (lv_at hl 1 rfl) ?_
      obtain ⟨h4, hf⟩ := gd_s hf
      refine ia_ld (k := 505) (n := 8) X G (hL 505 rfl) rfl (by decide) (ix_in h4) dX10_house_75 ?_
      exact rtRi X hlk hr (so_i hf) dX10_house_76
    have hf := it_f hf cs2
    by_cases cs3 : p2 = (3 : Int32)
    · have hf := it_t hf cs3
      refine tbl_in hx hb dX10_house_12 cs3 (by decide) (by decide) rfl (tgt := 77) (by decide) ?_
      refine lv_aload_n hx hb dX10_house_77 rfl (lv_at hl 0 rfl) ?_
      refine gf10 X G (hL 500 rfl) rfl 5 (by decide) rfl kf_X10_22 iwX10 dX10_house_78 ?_
      refine lv_iload_n hx hb dX10_house_81 rfl (lv_at hl 1 rfl) ?_
      obtain ⟨h4, hf⟩ := gd_s hf
      refine ia_ld (k := 506) (n := 8) X G (hL 506 rfl) rfl (by decide) (ix_in h4) dX10_house_82 ?_
      exact rtRi X hlk hr (so_i hf) dX10_house_83
    have hf := it_f hf cs3
    by_cases cs4 : p2 = (4 : Int32)
    · have hf := it_t hf cs4
      refine tbl_in hx hb dX10_house_12 cs4 (by decide) (by decide) rfl (tgt := 84) (by decide) ?_
      refine lv_aload_n hx hb dX10_house_84 rfl (lv_at hl 0 rfl) ?_
      refine lv_iload_n hx hb dX10_house_85 rfl (lv_at hl 1 rfl) ?_
      obtain ⟨x5, h4, hf⟩ := br_s hf
      refine cVRi (As := [.int p1]) (rest := []) X G kc_X10_371 (tX10_isFrozen l E st _ hL  p1 h4) (rcv X G (hL 500 rfl) (cO10 rfl) rfl) rfl rfl (rmk_le (by omega) (by decide)) rfl hl.1 rfl (Nat.le_of_ble_eq_true rfl) dX10_house_86 ⟨Nat.zero_le _, Nat.zero_le _⟩ ?_
      refine lv_if_eq (tgt := 96) hx hb dX10_house_89 (by decide) (fun c6 => ?_) (fun c6 => ?_)
      · have hf := it_t hf c6
        refine lv_iconst (v := (0 : Int32)) hx hb dX10_house_96 (by decide) ?_
        exact rtRi X hlk hr (so_i hf) dX10_house_97
      · have hf := it_f hf c6
        refine lv_iconst (v := (1 : Int32)) hx hb dX10_house_92 (by decide) ?_
        refine lv_goto (tgt := 97) hx hb dX10_house_93 (by decide) ?_
        exact rtRi X hlk hr (so_i hf) dX10_house_97
    have hf := it_f hf cs4
    by_cases cs5 : p2 = (5 : Int32)
    · have hf := it_t hf cs5
      refine tbl_in hx hb dX10_house_12 cs5 (by decide) (by decide) rfl (tgt := 98) (by decide) ?_
      refine lv_aload_n hx hb dX10_house_98 rfl (lv_at hl 0 rfl) ?_
      refine gf10 X G (hL 500 rfl) rfl 6 (by decide) rfl kf_X10_25 iwX10 dX10_house_99 ?_
      refine lv_iload_n hx hb dX10_house_102 rfl (lv_at hl 1 rfl) ?_
      obtain ⟨h4, hf⟩ := gd_s hf
      refine ia_ld (k := 507) (n := 8) X G (hL 507 rfl) rfl (by decide) (ix_in h4) dX10_house_103 ?_
      exact rtRi X hlk hr (so_i hf) dX10_house_104
    have hf := it_f hf cs5
    by_cases cs6 : p2 = (6 : Int32)
    · have hf := it_t hf cs6
      refine tbl_in hx hb dX10_house_12 cs6 (by decide) (by decide) rfl (tgt := 105) (by decide) ?_
      refine lv_aload_n hx hb dX10_house_105 rfl (lv_at hl 0 rfl) ?_
      refine gf10 X G (hL 500 rfl) rfl 7 (by decide) rfl kf_X10_28 iwX10 dX10_house_106 ?_
      refine lv_iload_n hx hb dX10_house_109 rfl (lv_at hl 1 rfl) ?_
      obtain ⟨h4, hf⟩ := gd_s hf
      refine ia_ld (k := 508) (n := 8) X G (hL 508 rfl) rfl (by decide) (ix_in h4) dX10_house_110 ?_
      exact rtRi X hlk hr (so_i hf) dX10_house_111
    have hf := it_f hf cs6
    have kd : W p l e (rmk 2) s m [.ref (eq E 500), .int p1, .int p2].toArray below meth c s.heap [] 0 0 (MQ below (QRi res) [.ref (eq E 500), .int p1, .int p2].toArray s 0 0 (NoF)) (F0 m 112 ls []) := by
      refine lv_bipush (v := (-2 : Int32)) hx hb dX10_house_112 (by decide) ?_
      exact rtRi X hlk hr (so_i hf) dX10_house_114
    refine lv_tableOut (tgt := 112) hx hb dX10_house_12 (sw_out (fun v h1 h2 => ?_)) (by decide) kd
    rcases (show v = 0 ∨ v = 1 ∨ v = 2 ∨ v = 3 ∨ v = 4 ∨ v = 5 ∨ v = 6 by omega) with rfl | rfl | rfl | rfl | rfl | rfl | rfl
    · exact cs0
    · exact cs1
    · exact cs2
    · exact cs3
    · exact cs4
    · exact cs5
    · exact cs6
  · have hf := it_t hf c3
    refine lv_bipush (v := (-2 : Int32)) hx hb dX10_house_8 (by decide) ?_
    exact rtRi X hlk hr (so_i hf) dX10_house_10
def fX10_officer (st : St) (p1 : Int32) (p2 : Int32) : Option Int32 := br (fX10_isOfficer st p1) (fun x2 => if x2 = 0 then (some (-1 : Int32)) else (if p2 = (0 : Int32) then (gd (ix p1 3) (some (st.1 509 p1.toNatClampNeg))) else (if p2 = (1 : Int32) then (gd (ix p1 3) (some (st.1 510 p1.toNatClampNeg))) else (if p2 = (2 : Int32) then (gd (ix p1 3) (some (st.1 511 p1.toNatClampNeg))) else (some (-1 : Int32))))))
set_option maxRecDepth 100000 in
theorem tX10_officer (l : Launch) (E : Ev) (st : St) (sz : Nat) (hL : ∀ k, fxM k = true → k ∈ eL E) (p1 : Int32) (p2 : Int32) {res : Int32} (hf : fX10_officer st p1 p2 = some res) : Met l yX10_officer (.code yX10_officer cX10_officer 3 (some .int) :: uW) (rmk 2) (va_Pc [.ref (eq E 500), .int p1, .int p2] (Pre E st sz)) (QRi res) 0 0 (NoF) := by
  refine Met_in (by decide) (Nat.le_of_ble_eq_true rfl) ?_
  intro p e s m below meth c X hr hlk hz G ls hl
  have hx := X.1.1
  have hb := X.1.2.1
  have hl : lv_has ls 3 [(0, .ref (eq E 500)), (1, .int p1), (2, .int p2)] := hl
  unfold fX10_officer at hf
  refine lv_aload_n hx hb dX10_officer_0 rfl (lv_at hl 0 rfl) ?_
  refine lv_iload_n hx hb dX10_officer_1 rfl (lv_at hl 1 rfl) ?_
  obtain ⟨x2, h1, hf⟩ := br_s hf
  refine cVRi (As := [.int p1]) (rest := []) X G kc_X10_374 (tX10_isOfficer l E st _ hL  p1 h1) (rcv X G (hL 500 rfl) (cO10 rfl) rfl) rfl rfl (rmk_le (by omega) (by decide)) rfl hl.1 rfl (Nat.le_of_ble_eq_true rfl) dX10_officer_2 ⟨Nat.zero_le _, Nat.zero_le _⟩ ?_
  refine lv_if_ne (tgt := 10) hx hb dX10_officer_5 (by decide) (fun c3 => ?_) (fun c3 => ?_)
  · have hf := it_f hf c3
    refine lv_iload_n hx hb dX10_officer_10 rfl (lv_at hl 2 rfl) ?_
    by_cases cs0 : p2 = (0 : Int32)
    · have hf := it_t hf cs0
      refine tbl_in hx hb dX10_officer_11 cs0 (by decide) (by decide) rfl (tgt := 36) (by decide) ?_
      refine lv_aload_n hx hb dX10_officer_36 rfl (lv_at hl 0 rfl) ?_
      refine gf10 X G (hL 500 rfl) rfl 8 (by decide) rfl kf_X10_31 iwX10 dX10_officer_37 ?_
      refine lv_iload_n hx hb dX10_officer_40 rfl (lv_at hl 1 rfl) ?_
      obtain ⟨h4, hf⟩ := gd_s hf
      refine ia_ld (k := 509) (n := 3) X G (hL 509 rfl) rfl (by decide) (ix_in h4) dX10_officer_41 ?_
      exact rtRi X hlk hr (so_i hf) dX10_officer_42
    have hf := it_f hf cs0
    by_cases cs1 : p2 = (1 : Int32)
    · have hf := it_t hf cs1
      refine tbl_in hx hb dX10_officer_11 cs1 (by decide) (by decide) rfl (tgt := 43) (by decide) ?_
      refine lv_aload_n hx hb dX10_officer_43 rfl (lv_at hl 0 rfl) ?_
      refine gf10 X G (hL 500 rfl) rfl 9 (by decide) rfl kf_X10_34 iwX10 dX10_officer_44 ?_
      refine lv_iload_n hx hb dX10_officer_47 rfl (lv_at hl 1 rfl) ?_
      obtain ⟨h4, hf⟩ := gd_s hf
      refine ia_ld (k := 510) (n := 3) X G (hL 510 rfl) rfl (by decide) (ix_in h4) dX10_officer_48 ?_
      exact rtRi X hlk hr (so_i hf) dX10_officer_49
    have hf := it_f hf cs1
    by_cases cs2 : p2 = (2 : Int32)
    · have hf := it_t hf cs2
      refine tbl_in hx hb dX10_officer_11 cs2 (by decide) (by decide) rfl (tgt := 50) (by decide) ?_
      refine lv_aload_n hx hb dX10_officer_50 rfl (lv_at hl 0 rfl) ?_
      refine gf10 X G (hL 500 rfl) rfl 10 (by decide) rfl kf_X10_37 iwX10 dX10_officer_51 ?_
      refine lv_iload_n hx hb dX10_officer_54 rfl (lv_at hl 1 rfl) ?_
      obtain ⟨h4, hf⟩ := gd_s hf
      refine ia_ld (k := 511) (n := 3) X G (hL 511 rfl) rfl (by decide) (ix_in h4) dX10_officer_55 ?_
      exact rtRi X hlk hr (so_i hf) dX10_officer_56
    have hf := it_f hf cs2
    have kd : W p l e (rmk 2) s m [.ref (eq E 500), .int p1, .int p2].toArray below meth c s.heap [] 0 0 (MQ below (QRi res) [.ref (eq E 500), .int p1, .int p2].toArray s 0 0 (NoF)) (F0 m 57 ls []) := by
      refine lv_iconst (v := (-1 : Int32)) hx hb dX10_officer_57 (by decide) ?_
      exact rtRi X hlk hr (so_i hf) dX10_officer_58
    refine lv_tableOut (tgt := 57) hx hb dX10_officer_11 (sw_out (fun v h1 h2 => ?_)) (by decide) kd
    rcases (show v = 0 ∨ v = 1 ∨ v = 2 by omega) with rfl | rfl | rfl
    · exact cs0
    · exact cs1
    · exact cs2
  · have hf := it_t hf c3
    refine lv_iconst (v := (-1 : Int32)) hx hb dX10_officer_8 (by decide) ?_
    exact rtRi X hlk hr (so_i hf) dX10_officer_9
def fX10_isSnowTold (st : St) : Option Int32 := if (100 : Int32) ≤ (st.1 502 6) then (some (0 : Int32)) else (gd (ix (st.1 502 6) 100) (if (st.1 512 (st.1 502 6).toNatClampNeg) = (1 : Int32) then (some (1 : Int32)) else (some (0 : Int32))))
set_option maxRecDepth 100000 in
theorem tX10_isSnowTold (l : Launch) (E : Ev) (st : St) (sz : Nat) (hL : ∀ k, fxM k = true → k ∈ eL E)  {res : Int32} (hf : fX10_isSnowTold st  = some res) : Met l yX10_isSnowTold (.code yX10_isSnowTold cX10_isSnowTold 1 (some .boolean) :: uW) (rmk 0) (va_Pc [.ref (eq E 500)] (Pre E st sz)) (QRi res) 0 0 (NoF) := by
  refine Met_in (by decide) (Nat.le_of_ble_eq_true rfl) ?_
  intro p e s m below meth c X hr hlk hz G ls hl
  have hx := X.1.1
  have hb := X.1.2.1
  have hl : lv_has ls 1 [(0, .ref (eq E 500))] := hl
  unfold fX10_isSnowTold at hf
  refine lv_aload_n hx hb dX10_isSnowTold_0 rfl (lv_at hl 0 rfl) ?_
  refine gf10 X G (hL 500 rfl) rfl 1 (by decide) rfl kf_X10_9 iwX10 dX10_isSnowTold_1 ?_
  refine lv_bipush (v := (6 : Int32)) hx hb dX10_isSnowTold_4 (by decide) ?_
  refine ia_ldc (k := 502) (n := 12) X G (hL 502 rfl) rfl (by decide) 6 (by decide) dX10_isSnowTold_6 ?_
  refine lv_bipush (v := (100 : Int32)) hx hb dX10_isSnowTold_7 (by decide) ?_
  refine lv_icmp_ge (tgt := 32) hx hb dX10_isSnowTold_9 (by decide) (fun c2 => ?_) (fun c2 => ?_)
  · have hf := it_t hf c2
    refine lv_iconst (v := (0 : Int32)) hx hb dX10_isSnowTold_32 (by decide) ?_
    exact rtRz X hlk hr rfl (so_i hf) dX10_isSnowTold_33
  · have hf := it_f hf c2
    refine lv_aload_n hx hb dX10_isSnowTold_12 rfl (lv_at hl 0 rfl) ?_
    refine gf10 X G (hL 500 rfl) rfl 11 (by decide) rfl kf_X10_40 iwX10 dX10_isSnowTold_13 ?_
    refine lv_aload_n hx hb dX10_isSnowTold_16 rfl (lv_at hl 0 rfl) ?_
    refine gf10 X G (hL 500 rfl) rfl 1 (by decide) rfl kf_X10_9 iwX10 dX10_isSnowTold_17 ?_
    refine lv_bipush (v := (6 : Int32)) hx hb dX10_isSnowTold_20 (by decide) ?_
    refine ia_ldc (k := 502) (n := 12) X G (hL 502 rfl) rfl (by decide) 6 (by decide) dX10_isSnowTold_22 ?_
    obtain ⟨h4, hf⟩ := gd_s hf
    refine ia_ld (k := 512) (n := 100) X G (hL 512 rfl) rfl (by decide) (ix_in h4) dX10_isSnowTold_23 ?_
    refine lv_iconst (v := (1 : Int32)) hx hb dX10_isSnowTold_24 (by decide) ?_
    refine lv_icmp_ne (tgt := 32) hx hb dX10_isSnowTold_25 (by decide) (fun c5 => ?_) (fun c5 => ?_)
    · have hf := it_f hf c5
      refine lv_iconst (v := (0 : Int32)) hx hb dX10_isSnowTold_32 (by decide) ?_
      exact rtRz X hlk hr rfl (so_i hf) dX10_isSnowTold_33
    · have hf := it_t hf c5
      refine lv_iconst (v := (1 : Int32)) hx hb dX10_isSnowTold_28 (by decide) ?_
      refine lv_goto (tgt := 33) hx hb dX10_isSnowTold_29 (by decide) ?_
      exact rtRz X hlk hr rfl (so_i hf) dX10_isSnowTold_33
def fX10_tenthOf (st : St) (p1 : Int32) (p2 : Int32) : Option Int32 := gd (ix p2 8) (nm (((st.1 503 p2.toNatClampNeg) * (st.1 502 0)) / (100 : Int32)) (fun x4 => gd (ix p1 3) (gd (ix p1 3) (nm ((st.1 510 p1.toNatClampNeg) - (st.1 511 p1.toNatClampNeg)) (fun x7 => if x7 ≤ x4 then (some x7) else (some x4))))))
set_option maxRecDepth 100000 in
theorem tX10_tenthOf (l : Launch) (E : Ev) (st : St) (sz : Nat) (hL : ∀ k, fxM k = true → k ∈ eL E) (p1 : Int32) (p2 : Int32) {res : Int32} (hf : fX10_tenthOf st p1 p2 = some res) : Met l yX10_tenthOf (.code yX10_tenthOf cX10_tenthOf 5 (some .int) :: uW) (rmk 0) (va_Pc [.ref (eq E 500), .int p1, .int p2] (Pre E st sz)) (QRi res) 0 0 (NoF) := by
  refine Met_in (by decide) (Nat.le_of_ble_eq_true rfl) ?_
  intro p e s m below meth c X hr hlk hz G ls hl
  have hx := X.1.1
  have hb := X.1.2.1
  have hl : lv_has ls 5 [(0, .ref (eq E 500)), (1, .int p1), (2, .int p2)] := hl
  unfold fX10_tenthOf at hf
  refine lv_aload_n hx hb dX10_tenthOf_0 rfl (lv_at hl 0 rfl) ?_
  refine gf10 X G (hL 500 rfl) rfl 2 (by decide) rfl kf_X10_13 iwX10 dX10_tenthOf_1 ?_
  refine lv_iload_n hx hb dX10_tenthOf_4 rfl (lv_at hl 2 rfl) ?_
  obtain ⟨h1, hf⟩ := gd_s hf
  refine ia_ld (k := 503) (n := 8) X G (hL 503 rfl) rfl (by decide) (ix_in h1) dX10_tenthOf_5 ?_
  refine lv_aload_n hx hb dX10_tenthOf_6 rfl (lv_at hl 0 rfl) ?_
  refine gf10 X G (hL 500 rfl) rfl 1 (by decide) rfl kf_X10_9 iwX10 dX10_tenthOf_7 ?_
  refine lv_iconst (v := (0 : Int32)) hx hb dX10_tenthOf_10 (by decide) ?_
  refine ia_ldc (k := 502) (n := 12) X G (hL 502 rfl) rfl (by decide) 0 (by decide) dX10_tenthOf_11 ?_
  refine lv_imul hx hb dX10_tenthOf_12 ?_
  refine lv_bipush (v := (100 : Int32)) hx hb dX10_tenthOf_13 (by decide) ?_
  refine lv_idiv hx hb dX10_tenthOf_15 (by decide) ?_
  refine lv_topi (fun x4 ex4 => ?_)
  have hf := nm_s hf x4 ex4
  refine lv_istore_n (lv' := [(3, .int x4), (0, .ref (eq E 500)), (1, .int p1), (2, .int p2)]) hx hb dX10_tenthOf_16 rfl hl (by decide) rfl (fun ls hl => ?_)
  refine lv_aload_n hx hb dX10_tenthOf_17 rfl (lv_at hl 1 rfl) ?_
  refine gf10 X G (hL 500 rfl) rfl 9 (by decide) rfl kf_X10_34 iwX10 dX10_tenthOf_18 ?_
  refine lv_iload_n hx hb dX10_tenthOf_21 rfl (lv_at hl 2 rfl) ?_
  obtain ⟨h5, hf⟩ := gd_s hf
  refine ia_ld (k := 510) (n := 3) X G (hL 510 rfl) rfl (by decide) (ix_in h5) dX10_tenthOf_22 ?_
  refine lv_aload_n hx hb dX10_tenthOf_23 rfl (lv_at hl 1 rfl) ?_
  refine gf10 X G (hL 500 rfl) rfl 10 (by decide) rfl kf_X10_37 iwX10 dX10_tenthOf_24 ?_
  refine lv_iload_n hx hb dX10_tenthOf_27 rfl (lv_at hl 2 rfl) ?_
  obtain ⟨h6, hf⟩ := gd_s hf
  refine ia_ld (k := 511) (n := 3) X G (hL 511 rfl) rfl (by decide) (ix_in h6) dX10_tenthOf_28 ?_
  refine lv_isub hx hb dX10_tenthOf_29 ?_
  refine lv_topi (fun x7 ex7 => ?_)
  have hf := nm_s hf x7 ex7
  refine lv_istore (lv' := [(4, .int x7), (3, .int x4), (0, .ref (eq E 500)), (1, .int p1), (2, .int p2)]) hx hb dX10_tenthOf_30 hl (by decide) rfl (fun ls hl => ?_)
  refine lv_iload_n hx hb dX10_tenthOf_32 rfl (lv_at hl 1 rfl) ?_
  refine lv_iload hx hb dX10_tenthOf_33 (lv_at hl 0 rfl) ?_
  refine lv_icmp_ge (tgt := 42) hx hb dX10_tenthOf_35 (by decide) (fun c8 => ?_) (fun c8 => ?_)
  · have hf := it_t hf c8
    refine lv_iload hx hb dX10_tenthOf_42 (lv_at hl 0 rfl) ?_
    exact rtRi X hlk hr (so_i hf) dX10_tenthOf_44
  · have hf := it_f hf c8
    refine lv_iload_n hx hb dX10_tenthOf_38 rfl (lv_at hl 1 rfl) ?_
    refine lv_goto (tgt := 44) hx hb dX10_tenthOf_39 (by decide) ?_
    exact rtRi X hlk hr (so_i hf) dX10_tenthOf_44
