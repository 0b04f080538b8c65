theorem dX10_opens_0 : decode cX10_opens 0 = .ok (.iload_n 1, 1) := by decide +kernel
theorem dX10_opens_1 : decode cX10_opens 1 = .ok (.bipush 9, 2) := by decide +kernel
theorem dX10_opens_3 : decode cX10_opens 3 = .ok (.if_icmp .eq 9, 3) := by decide +kernel
theorem dX10_opens_6 : decode cX10_opens 6 = .ok (.iload_n 1, 1) := by decide +kernel
theorem dX10_opens_7 : decode cX10_opens 7 = .ok (.bipush 12, 2) := by decide +kernel
theorem dX10_opens_9 : decode cX10_opens 9 = .ok (.if_icmp .ne 31, 3) := by decide +kernel
theorem dX10_opens_12 : decode cX10_opens 12 = .ok (.aload_n 0, 1) := by decide +kernel
theorem dX10_opens_13 : decode cX10_opens 13 = .ok (.getfield 261, 3) := by decide +kernel
theorem dX10_opens_16 : decode cX10_opens 16 = .ok (.bipush 10, 2) := by decide +kernel
theorem dX10_opens_18 : decode cX10_opens 18 = .ok (.if_icmp .ne 12, 3) := by decide +kernel
theorem dX10_opens_21 : decode cX10_opens 21 = .ok (.aload_n 0, 1) := by decide +kernel
theorem dX10_opens_22 : decode cX10_opens 22 = .ok (.iconst 2, 1) := by decide +kernel
theorem dX10_opens_23 : decode cX10_opens 23 = .ok (.aload_n 0, 1) := by decide +kernel
theorem dX10_opens_24 : decode cX10_opens 24 = .ok (.getfield 190, 3) := by decide +kernel
theorem dX10_opens_27 : decode cX10_opens 27 = .ok (.invokevirtual 226, 3) := by decide +kernel
theorem dX10_opens_30 : decode cX10_opens 30 = .ok (.aload_n 0, 1) := by decide +kernel
theorem dX10_opens_31 : decode cX10_opens 31 = .ok (.dup, 1) := by decide +kernel
theorem dX10_opens_32 : decode cX10_opens 32 = .ok (.getfield 261, 3) := by decide +kernel
theorem dX10_opens_35 : decode cX10_opens 35 = .ok (.iconst 1, 1) := by decide +kernel
theorem dX10_opens_36 : decode cX10_opens 36 = .ok (.iadd, 1) := by decide +kernel
theorem dX10_opens_37 : decode cX10_opens 37 = .ok (.putfield 261, 3) := by decide +kernel
theorem dX10_opens_40 : decode cX10_opens 40 = .ok (.aload_n 0, 1) := by decide +kernel
theorem dX10_opens_41 : decode cX10_opens 41 = .ok (.getfield 117, 3) := by decide +kernel
theorem dX10_opens_44 : decode cX10_opens 44 = .ok (.aload_n 0, 1) := by decide +kernel
theorem dX10_opens_45 : decode cX10_opens 45 = .ok (.getfield 258, 3) := by decide +kernel
theorem dX10_opens_48 : decode cX10_opens 48 = .ok (.iload_n 1, 1) := by decide +kernel
theorem dX10_opens_49 : decode cX10_opens 49 = .ok (.iastore, 1) := by decide +kernel
theorem dX10_opens_50 : decode cX10_opens 50 = .ok (.aload_n 0, 1) := by decide +kernel
theorem dX10_opens_51 : decode cX10_opens 51 = .ok (.dup, 1) := by decide +kernel
theorem dX10_opens_52 : decode cX10_opens 52 = .ok (.getfield 258, 3) := by decide +kernel
theorem dX10_opens_55 : decode cX10_opens 55 = .ok (.iconst 1, 1) := by decide +kernel
theorem dX10_opens_56 : decode cX10_opens 56 = .ok (.iadd, 1) := by decide +kernel
theorem dX10_opens_57 : decode cX10_opens 57 = .ok (.putfield 258, 3) := by decide +kernel
theorem dX10_opens_60 : decode cX10_opens 60 = .ok (.return_, 1) := by decide +kernel
theorem dX10_answers_0 : decode cX10_answers 0 = .ok (.aload_n 0, 1) := by decide +kernel
theorem dX10_answers_1 : decode cX10_answers 1 = .ok (.invokevirtual 264, 3) := by decide +kernel
theorem dX10_answers_4 : decode cX10_answers 4 = .ok (.iload_n 1, 1) := by decide +kernel
theorem dX10_answers_5 : decode cX10_answers 5 = .ok (.if_icmp .ne 49, 3) := by decide +kernel
theorem dX10_answers_8 : decode cX10_answers 8 = .ok (.aload_n 0, 1) := by decide +kernel
theorem dX10_answers_9 : decode cX10_answers 9 = .ok (.getfield 187, 3) := by decide +kernel
theorem dX10_answers_12 : decode cX10_answers 12 = .ok (.ifCond .ne 42, 3) := by decide +kernel
theorem dX10_answers_15 : decode cX10_answers 15 = .ok (.aload_n 0, 1) := by decide +kernel
theorem dX10_answers_16 : decode cX10_answers 16 = .ok (.iload_n 1, 1) := by decide +kernel
theorem dX10_answers_17 : decode cX10_answers 17 = .ok (.iconst 0, 1) := by decide +kernel
theorem dX10_answers_18 : decode cX10_answers 18 = .ok (.invokevirtual 242, 3) := by decide +kernel
theorem dX10_answers_21 : decode cX10_answers 21 = .ok (.aload_n 0, 1) := by decide +kernel
theorem dX10_answers_22 : decode cX10_answers 22 = .ok (.dup, 1) := by decide +kernel
theorem dX10_answers_23 : decode cX10_answers 23 = .ok (.getfield 258, 3) := by decide +kernel
theorem dX10_answers_26 : decode cX10_answers 26 = .ok (.iconst 1, 1) := by decide +kernel
theorem dX10_answers_27 : decode cX10_answers 27 = .ok (.isub, 1) := by decide +kernel
theorem dX10_answers_28 : decode cX10_answers 28 = .ok (.putfield 258, 3) := by decide +kernel
theorem dX10_answers_31 : decode cX10_answers 31 = .ok (.aload_n 0, 1) := by decide +kernel
theorem dX10_answers_32 : decode cX10_answers 32 = .ok (.dup, 1) := by decide +kernel
theorem dX10_answers_33 : decode cX10_answers 33 = .ok (.getfield 261, 3) := by decide +kernel
theorem dX10_answers_36 : decode cX10_answers 36 = .ok (.iload_n 1, 1) := by decide +kernel
theorem dX10_answers_37 : decode cX10_answers 37 = .ok (.bipush 9, 2) := by decide +kernel
theorem dX10_answers_39 : decode cX10_answers 39 = .ok (.if_icmp .ne 7, 3) := by decide +kernel
theorem dX10_answers_42 : decode cX10_answers 42 = .ok (.iconst 1, 1) := by decide +kernel
theorem dX10_answers_43 : decode cX10_answers 43 = .ok (.goto 4, 3) := by decide +kernel
theorem dX10_answers_46 : decode cX10_answers 46 = .ok (.iconst 0, 1) := by decide +kernel
theorem dX10_answers_47 : decode cX10_answers 47 = .ok (.isub, 1) := by decide +kernel
theorem dX10_answers_48 : decode cX10_answers 48 = .ok (.putfield 261, 3) := by decide +kernel
theorem dX10_answers_51 : decode cX10_answers 51 = .ok (.goto (-51), 3) := by decide +kernel
theorem dX10_answers_54 : decode cX10_answers 54 = .ok (.return_, 1) := by decide +kernel
theorem dX10_fact_0 : decode cX10_fact 0 = .ok (.aload_n 0, 1) := by decide +kernel
theorem dX10_fact_1 : decode cX10_fact 1 = .ok (.invokevirtual 210, 3) := by decide +kernel
theorem dX10_fact_4 : decode cX10_fact 4 = .ok (.aload_n 0, 1) := by decide +kernel
theorem dX10_fact_5 : decode cX10_fact 5 = .ok (.ldc_w 267, 3) := by decide +kernel
theorem dX10_fact_8 : decode cX10_fact 8 = .ok (.invokevirtual 213, 3) := by decide +kernel
theorem dX10_fact_11 : decode cX10_fact 11 = .ok (.ifCond .eq 21, 3) := by decide +kernel
theorem dX10_fact_14 : decode cX10_fact 14 = .ok (.aload_n 0, 1) := by decide +kernel
theorem dX10_fact_15 : decode cX10_fact 15 = .ok (.bipush 9, 2) := by decide +kernel
theorem dX10_fact_17 : decode cX10_fact 17 = .ok (.invokevirtual 269, 3) := by decide +kernel
theorem dX10_fact_20 : decode cX10_fact 20 = .ok (.aload_n 0, 1) := by decide +kernel
theorem dX10_fact_21 : decode cX10_fact 21 = .ok (.dup, 1) := by decide +kernel
theorem dX10_fact_22 : decode cX10_fact 22 = .ok (.getfield 190, 3) := by decide +kernel
theorem dX10_fact_25 : decode cX10_fact 25 = .ok (.iconst 3, 1) := by decide +kernel
theorem dX10_fact_26 : decode cX10_fact 26 = .ok (.iadd, 1) := by decide +kernel
theorem dX10_fact_27 : decode cX10_fact 27 = .ok (.putfield 190, 3) := by decide +kernel
theorem dX10_fact_30 : decode cX10_fact 30 = .ok (.iconst 0, 1) := by decide +kernel
theorem dX10_fact_31 : decode cX10_fact 31 = .ok (.ireturn, 1) := by decide +kernel
theorem dX10_fact_32 : decode cX10_fact 32 = .ok (.aload_n 0, 1) := by decide +kernel
theorem dX10_fact_33 : decode cX10_fact 33 = .ok (.invokevirtual 193, 3) := by decide +kernel
theorem dX10_fact_36 : decode cX10_fact 36 = .ok (.bipush 91, 2) := by decide +kernel
theorem dX10_fact_38 : decode cX10_fact 38 = .ok (.if_icmp .ne 21, 3) := by decide +kernel
theorem dX10_fact_41 : decode cX10_fact 41 = .ok (.aload_n 0, 1) := by decide +kernel
theorem dX10_fact_42 : decode cX10_fact 42 = .ok (.bipush 12, 2) := by decide +kernel
theorem dX10_fact_44 : decode cX10_fact 44 = .ok (.invokevirtual 269, 3) := by decide +kernel
theorem dX10_fact_47 : decode cX10_fact 47 = .ok (.aload_n 0, 1) := by decide +kernel
theorem dX10_fact_48 : decode cX10_fact 48 = .ok (.dup, 1) := by decide +kernel
theorem dX10_fact_49 : decode cX10_fact 49 = .ok (.getfield 190, 3) := by decide +kernel
theorem dX10_fact_52 : decode cX10_fact 52 = .ok (.iconst 1, 1) := by decide +kernel
theorem dX10_fact_53 : decode cX10_fact 53 = .ok (.iadd, 1) := by decide +kernel
theorem dX10_fact_54 : decode cX10_fact 54 = .ok (.putfield 190, 3) := by decide +kernel
theorem dX10_fact_57 : decode cX10_fact 57 = .ok (.iconst 0, 1) := by decide +kernel
theorem dX10_fact_58 : decode cX10_fact 58 = .ok (.ireturn, 1) := by decide +kernel
theorem dX10_fact_59 : decode cX10_fact 59 = .ok (.aload_n 0, 1) := by decide +kernel
theorem dX10_fact_60 : decode cX10_fact 60 = .ok (.invokevirtual 272, 3) := by decide +kernel
theorem dX10_fact_63 : decode cX10_fact 63 = .ok (.iconst 1, 1) := by decide +kernel
theorem dX10_fact_64 : decode cX10_fact 64 = .ok (.ireturn, 1) := by decide +kernel
theorem dX10_test_0 : decode cX10_test 0 = .ok (.aload_n 0, 1) := by decide +kernel
theorem dX10_test_1 : decode cX10_test 1 = .ok (.iconst 0, 1) := by decide +kernel
theorem dX10_test_2 : decode cX10_test 2 = .ok (.putfield 258, 3) := by decide +kernel
theorem dX10_test_5 : decode cX10_test 5 = .ok (.iconst 1, 1) := by decide +kernel
theorem dX10_test_6 : decode cX10_test 6 = .ok (.istore_n 1, 1) := by decide +kernel
theorem dX10_test_7 : decode cX10_test 7 = .ok (.iconst 1, 1) := by decide +kernel
theorem dX10_test_8 : decode cX10_test 8 = .ok (.istore_n 2, 1) := by decide +kernel
theorem dX10_test_9 : decode cX10_test 9 = .ok (.iload_n 2, 1) := by decide +kernel
theorem dX10_test_10 : decode cX10_test 10 = .ok (.ifCond .eq 192, 3) := by decide +kernel
theorem dX10_test_13 : decode cX10_test 13 = .ok (.aload_n 0, 1) := by decide +kernel
theorem dX10_test_14 : decode cX10_test 14 = .ok (.getfield 187, 3) := by decide +kernel
theorem dX10_test_17 : decode cX10_test 17 = .ok (.ifCond .ne 185, 3) := by decide +kernel
theorem dX10_test_20 : decode cX10_test 20 = .ok (.iload_n 1, 1) := by decide +kernel
theorem dX10_test_21 : decode cX10_test 21 = .ok (.ifCond .eq 19, 3) := by decide +kernel
theorem dX10_test_24 : decode cX10_test 24 = .ok (.aload_n 0, 1) := by decide +kernel
theorem dX10_test_25 : decode cX10_test 25 = .ok (.invokevirtual 275, 3) := by decide +kernel
theorem dX10_test_28 : decode cX10_test 28 = .ok (.ifCond .ne 7, 3) := by decide +kernel
theorem dX10_test_31 : decode cX10_test 31 = .ok (.iconst 1, 1) := by decide +kernel
theorem dX10_test_32 : decode cX10_test 32 = .ok (.goto 4, 3) := by decide +kernel
theorem dX10_test_35 : decode cX10_test 35 = .ok (.iconst 0, 1) := by decide +kernel
theorem dX10_test_36 : decode cX10_test 36 = .ok (.istore_n 1, 1) := by decide +kernel
theorem dX10_test_37 : decode cX10_test 37 = .ok (.goto (-28), 3) := by decide +kernel
theorem dX10_test_40 : decode cX10_test 40 = .ok (.aload_n 0, 1) := by decide +kernel
theorem dX10_test_41 : decode cX10_test 41 = .ok (.bipush 9, 2) := by decide +kernel
theorem dX10_test_43 : decode cX10_test 43 = .ok (.invokevirtual 278, 3) := by decide +kernel
theorem dX10_test_46 : decode cX10_test 46 = .ok (.aload_n 0, 1) := by decide +kernel
theorem dX10_test_47 : decode cX10_test 47 = .ok (.invokevirtual 210, 3) := by decide +kernel
theorem dX10_test_50 : decode cX10_test 50 = .ok (.aload_n 0, 1) := by decide +kernel
theorem dX10_test_51 : decode cX10_test 51 = .ok (.ldc_w 281, 3) := by decide +kernel
theorem dX10_test_54 : decode cX10_test 54 = .ok (.invokevirtual 213, 3) := by decide +kernel
theorem dX10_test_57 : decode cX10_test 57 = .ok (.istore_n 3, 1) := by decide +kernel
theorem dX10_test_58 : decode cX10_test 58 = .ok (.aload_n 0, 1) := by decide +kernel
theorem dX10_test_59 : decode cX10_test 59 = .ok (.ldc_w 283, 3) := by decide +kernel
theorem dX10_test_62 : decode cX10_test 62 = .ok (.invokevirtual 213, 3) := by decide +kernel
theorem dX10_test_65 : decode cX10_test 65 = .ok (.istore 4, 2) := by decide +kernel
theorem dX10_test_67 : decode cX10_test 67 = .ok (.aload_n 0, 1) := by decide +kernel
theorem dX10_test_68 : decode cX10_test 68 = .ok (.bipush 10, 2) := by decide +kernel
theorem dX10_test_70 : decode cX10_test 70 = .ok (.invokevirtual 278, 3) := by decide +kernel
theorem dX10_test_73 : decode cX10_test 73 = .ok (.iload_n 3, 1) := by decide +kernel
theorem dX10_test_74 : decode cX10_test 74 = .ok (.ifCond .ne 8, 3) := by decide +kernel
theorem dX10_test_77 : decode cX10_test 77 = .ok (.iload 4, 2) := by decide +kernel
theorem dX10_test_79 : decode cX10_test 79 = .ok (.ifCond .eq 52, 3) := by decide +kernel
theorem dX10_test_82 : decode cX10_test 82 = .ok (.iload 4, 2) := by decide +kernel
theorem dX10_test_84 : decode cX10_test 84 = .ok (.ifCond .eq 9, 3) := by decide +kernel
theorem dX10_test_87 : decode cX10_test 87 = .ok (.aload_n 0, 1) := by decide +kernel
theorem dX10_test_88 : decode cX10_test 88 = .ok (.bipush 11, 2) := by decide +kernel
theorem dX10_test_90 : decode cX10_test 90 = .ok (.invokevirtual 278, 3) := by decide +kernel
theorem dX10_test_93 : decode cX10_test 93 = .ok (.aload_n 0, 1) := by decide +kernel
theorem dX10_test_94 : decode cX10_test 94 = .ok (.iload_n 3, 1) := by decide +kernel
theorem dX10_test_95 : decode cX10_test 95 = .ok (.ifCond .eq 8, 3) := by decide +kernel
theorem dX10_test_98 : decode cX10_test 98 = .ok (.bipush 10, 2) := by decide +kernel
theorem dX10_test_100 : decode cX10_test 100 = .ok (.goto 5, 3) := by decide +kernel
theorem dX10_test_103 : decode cX10_test 103 = .ok (.bipush 11, 2) := by decide +kernel
theorem dX10_test_105 : decode cX10_test 105 = .ok (.invokevirtual 269, 3) := by decide +kernel
theorem dX10_test_108 : decode cX10_test 108 = .ok (.aload_n 0, 1) := by decide +kernel
theorem dX10_test_109 : decode cX10_test 109 = .ok (.dup, 1) := by decide +kernel
theorem dX10_test_110 : decode cX10_test 110 = .ok (.getfield 190, 3) := by decide +kernel
theorem dX10_test_113 : decode cX10_test 113 = .ok (.iload_n 3, 1) := by decide +kernel
theorem dX10_test_114 : decode cX10_test 114 = .ok (.ifCond .eq 7, 3) := by decide +kernel
theorem dX10_test_117 : decode cX10_test 117 = .ok (.iconst 3, 1) := by decide +kernel
theorem dX10_test_118 : decode cX10_test 118 = .ok (.goto 4, 3) := by decide +kernel
theorem dX10_test_121 : decode cX10_test 121 = .ok (.iconst 2, 1) := by decide +kernel
theorem dX10_test_122 : decode cX10_test 122 = .ok (.iadd, 1) := by decide +kernel
theorem dX10_test_123 : decode cX10_test 123 = .ok (.putfield 190, 3) := by decide +kernel
theorem dX10_test_126 : decode cX10_test 126 = .ok (.iconst 1, 1) := by decide +kernel
theorem dX10_test_127 : decode cX10_test 127 = .ok (.istore_n 1, 1) := by decide +kernel
theorem dX10_test_128 : decode cX10_test 128 = .ok (.goto 71, 3) := by decide +kernel
theorem dX10_test_131 : decode cX10_test 131 = .ok (.aload_n 0, 1) := by decide +kernel
theorem dX10_test_132 : decode cX10_test 132 = .ok (.bipush 11, 2) := by decide +kernel
theorem dX10_test_134 : decode cX10_test 134 = .ok (.invokevirtual 278, 3) := by decide +kernel
theorem dX10_test_137 : decode cX10_test 137 = .ok (.aload_n 0, 1) := by decide +kernel
theorem dX10_test_138 : decode cX10_test 138 = .ok (.invokevirtual 264, 3) := by decide +kernel
theorem dX10_test_141 : decode cX10_test 141 = .ok (.bipush 12, 2) := by decide +kernel
theorem dX10_test_143 : decode cX10_test 143 = .ok (.if_icmp .ne 54, 3) := by decide +kernel
theorem dX10_test_146 : decode cX10_test 146 = .ok (.aload_n 0, 1) := by decide +kernel
theorem dX10_test_147 : decode cX10_test 147 = .ok (.invokevirtual 193, 3) := by decide +kernel
theorem dX10_test_150 : decode cX10_test 150 = .ok (.bipush 93, 2) := by decide +kernel
theorem dX10_test_152 : decode cX10_test 152 = .ok (.if_icmp .eq 12, 3) := by decide +kernel
theorem dX10_test_155 : decode cX10_test 155 = .ok (.aload_n 0, 1) := by decide +kernel
theorem dX10_test_156 : decode cX10_test 156 = .ok (.iconst 0, 1) := by decide +kernel
theorem dX10_test_157 : decode cX10_test 157 = .ok (.aload_n 0, 1) := by decide +kernel
theorem dX10_test_158 : decode cX10_test 158 = .ok (.getfield 190, 3) := by decide +kernel
theorem dX10_test_161 : decode cX10_test 161 = .ok (.invokevirtual 226, 3) := by decide +kernel
theorem dX10_test_164 : decode cX10_test 164 = .ok (.aload_n 0, 1) := by decide +kernel
theorem dX10_test_165 : decode cX10_test 165 = .ok (.dup, 1) := by decide +kernel
theorem dX10_test_166 : decode cX10_test 166 = .ok (.getfield 190, 3) := by decide +kernel
theorem dX10_test_169 : decode cX10_test 169 = .ok (.iconst 1, 1) := by decide +kernel
theorem dX10_test_170 : decode cX10_test 170 = .ok (.iadd, 1) := by decide +kernel
theorem dX10_test_171 : decode cX10_test 171 = .ok (.putfield 190, 3) := by decide +kernel
theorem dX10_test_174 : decode cX10_test 174 = .ok (.aload_n 0, 1) := by decide +kernel
theorem dX10_test_175 : decode cX10_test 175 = .ok (.dup, 1) := by decide +kernel
theorem dX10_test_176 : decode cX10_test 176 = .ok (.getfield 258, 3) := by decide +kernel
theorem dX10_test_179 : decode cX10_test 179 = .ok (.iconst 1, 1) := by decide +kernel
theorem dX10_test_180 : decode cX10_test 180 = .ok (.isub, 1) := by decide +kernel
theorem dX10_test_181 : decode cX10_test 181 = .ok (.putfield 258, 3) := by decide +kernel
theorem dX10_test_184 : decode cX10_test 184 = .ok (.aload_n 0, 1) := by decide +kernel
theorem dX10_test_185 : decode cX10_test 185 = .ok (.dup, 1) := by decide +kernel
theorem dX10_test_186 : decode cX10_test 186 = .ok (.getfield 261, 3) := by decide +kernel
theorem dX10_test_189 : decode cX10_test 189 = .ok (.iconst 1, 1) := by decide +kernel
theorem dX10_test_190 : decode cX10_test 190 = .ok (.isub, 1) := by decide +kernel
theorem dX10_test_191 : decode cX10_test 191 = .ok (.putfield 261, 3) := by decide +kernel
theorem dX10_test_194 : decode cX10_test 194 = .ok (.goto 5, 3) := by decide +kernel
theorem dX10_test_197 : decode cX10_test 197 = .ok (.iconst 0, 1) := by decide +kernel
theorem dX10_test_198 : decode cX10_test 198 = .ok (.istore_n 2, 1) := by decide +kernel
theorem dX10_test_199 : decode cX10_test 199 = .ok (.goto (-190), 3) := by decide +kernel
theorem dX10_test_202 : decode cX10_test 202 = .ok (.return_, 1) := by decide +kernel
theorem dX10_amount_0 : decode cX10_amount 0 = .ok (.aload_n 0, 1) := by decide +kernel
theorem dX10_amount_1 : decode cX10_amount 1 = .ok (.invokevirtual 210, 3) := by decide +kernel
theorem dX10_amount_4 : decode cX10_amount 4 = .ok (.aload_n 0, 1) := by decide +kernel
theorem dX10_amount_5 : decode cX10_amount 5 = .ok (.getfield 190, 3) := by decide +kernel
theorem dX10_amount_8 : decode cX10_amount 8 = .ok (.istore_n 3, 1) := by decide +kernel
theorem dX10_amount_9 : decode cX10_amount 9 = .ok (.aload_n 0, 1) := by decide +kernel
theorem dX10_amount_10 : decode cX10_amount 10 = .ok (.getfield 187, 3) := by decide +kernel
theorem dX10_amount_13 : decode cX10_amount 13 = .ok (.ifCond .ne 12, 3) := by decide +kernel
theorem dX10_amount_16 : decode cX10_amount 16 = .ok (.aload_n 0, 1) := by decide +kernel
theorem dX10_amount_17 : decode cX10_amount 17 = .ok (.ldc 234, 2) := by decide +kernel
theorem dX10_amount_19 : decode cX10_amount 19 = .ok (.invokevirtual 235, 3) := by decide +kernel
theorem dX10_amount_22 : decode cX10_amount 22 = .ok (.goto 4, 3) := by decide +kernel
theorem dX10_amount_25 : decode cX10_amount 25 = .ok (.iconst 0, 1) := by decide +kernel
theorem dX10_amount_26 : decode cX10_amount 26 = .ok (.istore 4, 2) := by decide +kernel
theorem dX10_amount_28 : decode cX10_amount 28 = .ok (.aload_n 0, 1) := by decide +kernel
theorem dX10_amount_29 : decode cX10_amount 29 = .ok (.getfield 187, 3) := by decide +kernel
theorem dX10_amount_32 : decode cX10_amount 32 = .ok (.ifCond .ne 22, 3) := by decide +kernel
theorem dX10_amount_35 : decode cX10_amount 35 = .ok (.iload 4, 2) := by decide +kernel
theorem dX10_amount_37 : decode cX10_amount 37 = .ok (.i2l, 1) := by decide +kernel
theorem dX10_amount_38 : decode cX10_amount 38 = .ok (.iload_n 1, 1) := by decide +kernel
theorem dX10_amount_39 : decode cX10_amount 39 = .ok (.i2l, 1) := by decide +kernel
theorem dX10_amount_40 : decode cX10_amount 40 = .ok (.iload_n 2, 1) := by decide +kernel
theorem dX10_amount_41 : decode cX10_amount 41 = .ok (.i2l, 1) := by decide +kernel
theorem dX10_amount_42 : decode cX10_amount 42 = .ok (.invokestatic 152, 3) := by decide +kernel
theorem dX10_amount_45 : decode cX10_amount 45 = .ok (.ifCond .ne 9, 3) := by decide +kernel
theorem dX10_amount_48 : decode cX10_amount 48 = .ok (.aload_n 0, 1) := by decide +kernel
theorem dX10_amount_49 : decode cX10_amount 49 = .ok (.iconst 1, 1) := by decide +kernel
theorem dX10_amount_50 : decode cX10_amount 50 = .ok (.iload_n 3, 1) := by decide +kernel
theorem dX10_amount_51 : decode cX10_amount 51 = .ok (.invokevirtual 226, 3) := by decide +kernel
theorem dX10_amount_54 : decode cX10_amount 54 = .ok (.iload 4, 2) := by decide +kernel
theorem dX10_amount_56 : decode cX10_amount 56 = .ok (.ireturn, 1) := by decide +kernel
theorem dX10_duchyWord_0 : decode cX10_duchyWord 0 = .ok (.iload_n 0, 1) := by decide +kernel
theorem dX10_duchyWord_1 : decode cX10_duchyWord 1 = .ok (.tableswitch 53 0 4 #[35, 39, 42, 46, 50], 35) := by decide +kernel
theorem dX10_duchyWord_36 : decode cX10_duchyWord 36 = .ok (.ldc_w 285, 3) := by decide +kernel
theorem dX10_duchyWord_39 : decode cX10_duchyWord 39 = .ok (.areturn, 1) := by decide +kernel
theorem dX10_duchyWord_40 : decode cX10_duchyWord 40 = .ok (.ldc 169, 2) := by decide +kernel
theorem dX10_duchyWord_42 : decode cX10_duchyWord 42 = .ok (.areturn, 1) := by decide +kernel
theorem dX10_duchyWord_43 : decode cX10_duchyWord 43 = .ok (.ldc_w 287, 3) := by decide +kernel
theorem dX10_duchyWord_46 : decode cX10_duchyWord 46 = .ok (.areturn, 1) := by decide +kernel
theorem dX10_duchyWord_47 : decode cX10_duchyWord 47 = .ok (.ldc_w 289, 3) := by decide +kernel
theorem dX10_duchyWord_50 : decode cX10_duchyWord 50 = .ok (.areturn, 1) := by decide +kernel
theorem dX10_duchyWord_51 : decode cX10_duchyWord 51 = .ok (.ldc 167, 2) := by decide +kernel
theorem dX10_duchyWord_53 : decode cX10_duchyWord 53 = .ok (.areturn, 1) := by decide +kernel
theorem dX10_duchyWord_54 : decode cX10_duchyWord 54 = .ok (.ldc_w 291, 3) := by decide +kernel
theorem dX10_duchyWord_57 : decode cX10_duchyWord 57 = .ok (.areturn, 1) := by decide +kernel
theorem dX10_readsLane_0 : decode cX10_readsLane 0 = .ok (.aload_n 0, 1) := by decide +kernel
theorem dX10_readsLane_1 : decode cX10_readsLane 1 = .ok (.iconst 0, 1) := by decide +kernel
theorem dX10_readsLane_2 : decode cX10_readsLane 2 = .ok (.aload_n 0, 1) := by decide +kernel
theorem dX10_readsLane_3 : decode cX10_readsLane 3 = .ok (.getfield 64, 3) := by decide +kernel
theorem dX10_readsLane_6 : decode cX10_readsLane 6 = .ok (.iconst 3, 1) := by decide +kernel
theorem dX10_readsLane_7 : decode cX10_readsLane 7 = .ok (.iaload, 1) := by decide +kernel
theorem dX10_readsLane_8 : decode cX10_readsLane 8 = .ok (.iconst 1, 1) := by decide +kernel
theorem dX10_readsLane_9 : decode cX10_readsLane 9 = .ok (.isub, 1) := by decide +kernel
theorem dX10_readsLane_10 : decode cX10_readsLane 10 = .ok (.invokevirtual 292, 3) := by decide +kernel
theorem dX10_readsLane_13 : decode cX10_readsLane 13 = .ok (.istore_n 1, 1) := by decide +kernel
theorem dX10_readsLane_14 : decode cX10_readsLane 14 = .ok (.aload_n 0, 1) := by decide +kernel
theorem dX10_readsLane_15 : decode cX10_readsLane 15 = .ok (.invokevirtual 210, 3) := by decide +kernel
theorem dX10_readsLane_18 : decode cX10_readsLane 18 = .ok (.aload_n 0, 1) := by decide +kernel
theorem dX10_readsLane_19 : decode cX10_readsLane 19 = .ok (.getfield 190, 3) := by decide +kernel
theorem dX10_readsLane_22 : decode cX10_readsLane 22 = .ok (.istore_n 2, 1) := by decide +kernel
theorem dX10_readsLane_23 : decode cX10_readsLane 23 = .ok (.aload_n 0, 1) := by decide +kernel
theorem dX10_readsLane_24 : decode cX10_readsLane 24 = .ok (.iconst 0, 1) := by decide +kernel
theorem dX10_readsLane_25 : decode cX10_readsLane 25 = .ok (.aload_n 0, 1) := by decide +kernel
theorem dX10_readsLane_26 : decode cX10_readsLane 26 = .ok (.getfield 64, 3) := by decide +kernel
theorem dX10_readsLane_29 : decode cX10_readsLane 29 = .ok (.iconst 3, 1) := by decide +kernel
theorem dX10_readsLane_30 : decode cX10_readsLane 30 = .ok (.iaload, 1) := by decide +kernel
theorem dX10_readsLane_31 : decode cX10_readsLane 31 = .ok (.iconst 1, 1) := by decide +kernel
theorem dX10_readsLane_32 : decode cX10_readsLane 32 = .ok (.isub, 1) := by decide +kernel
theorem dX10_readsLane_33 : decode cX10_readsLane 33 = .ok (.invokevirtual 292, 3) := by decide +kernel
theorem dX10_readsLane_36 : decode cX10_readsLane 36 = .ok (.istore_n 3, 1) := by decide +kernel
theorem dX10_readsLane_37 : decode cX10_readsLane 37 = .ok (.aload_n 0, 1) := by decide +kernel
theorem dX10_readsLane_38 : decode cX10_readsLane 38 = .ok (.getfield 187, 3) := by decide +kernel
theorem dX10_readsLane_41 : decode cX10_readsLane 41 = .ok (.ifCond .ne 14, 3) := by decide +kernel
theorem dX10_readsLane_44 : decode cX10_readsLane 44 = .ok (.iload_n 1, 1) := by decide +kernel
theorem dX10_readsLane_45 : decode cX10_readsLane 45 = .ok (.iload_n 3, 1) := by decide +kernel
theorem dX10_readsLane_46 : decode cX10_readsLane 46 = .ok (.if_icmp .ne 9, 3) := by decide +kernel
theorem dX10_readsLane_49 : decode cX10_readsLane 49 = .ok (.aload_n 0, 1) := by decide +kernel
theorem dX10_readsLane_50 : decode cX10_readsLane 50 = .ok (.iconst 1, 1) := by decide +kernel
theorem dX10_readsLane_51 : decode cX10_readsLane 51 = .ok (.iload_n 2, 1) := by decide +kernel
theorem dX10_readsLane_52 : decode cX10_readsLane 52 = .ok (.invokevirtual 226, 3) := by decide +kernel
theorem dX10_readsLane_55 : decode cX10_readsLane 55 = .ok (.aload_n 0, 1) := by decide +kernel
theorem dX10_readsLane_56 : decode cX10_readsLane 56 = .ok (.getfield 187, 3) := by decide +kernel
theorem dX10_readsLane_59 : decode cX10_readsLane 59 = .ok (.ifCond .ne 50, 3) := by decide +kernel
theorem dX10_readsLane_62 : decode cX10_readsLane 62 = .ok (.aload_n 0, 1) := by decide +kernel
theorem dX10_readsLane_63 : decode cX10_readsLane 63 = .ok (.getfield 79, 3) := by decide +kernel
theorem dX10_readsLane_66 : decode cX10_readsLane 66 = .ok (.iload_n 1, 1) := by decide +kernel
theorem dX10_readsLane_67 : decode cX10_readsLane 67 = .ok (.iaload, 1) := by decide +kernel
theorem dX10_readsLane_68 : decode cX10_readsLane 68 = .ok (.iload_n 3, 1) := by decide +kernel
theorem dX10_readsLane_69 : decode cX10_readsLane 69 = .ok (.invokestatic 156, 3) := by decide +kernel
theorem dX10_readsLane_72 : decode cX10_readsLane 72 = .ok (.ifCond .ne 37, 3) := by decide +kernel
theorem dX10_readsLane_75 : decode cX10_readsLane 75 = .ok (.aload_n 0, 1) := by decide +kernel
theorem dX10_readsLane_76 : decode cX10_readsLane 76 = .ok (.getfield 79, 3) := by decide +kernel
theorem dX10_readsLane_79 : decode cX10_readsLane 79 = .ok (.iload_n 1, 1) := by decide +kernel
theorem dX10_readsLane_80 : decode cX10_readsLane 80 = .ok (.dup2, 1) := by decide +kernel
theorem dX10_readsLane_81 : decode cX10_readsLane 81 = .ok (.iaload, 1) := by decide +kernel
theorem dX10_readsLane_82 : decode cX10_readsLane 82 = .ok (.iconst 1, 1) := by decide +kernel
theorem dX10_readsLane_83 : decode cX10_readsLane 83 = .ok (.iload_n 3, 1) := by decide +kernel
theorem dX10_readsLane_84 : decode cX10_readsLane 84 = .ok (.ishl, 1) := by decide +kernel
theorem dX10_readsLane_85 : decode cX10_readsLane 85 = .ok (.ior, 1) := by decide +kernel
theorem dX10_readsLane_86 : decode cX10_readsLane 86 = .ok (.iastore, 1) := by decide +kernel
theorem dX10_readsLane_87 : decode cX10_readsLane 87 = .ok (.aload_n 0, 1) := by decide +kernel
theorem dX10_readsLane_88 : decode cX10_readsLane 88 = .ok (.getfield 79, 3) := by decide +kernel
theorem dX10_readsLane_91 : decode cX10_readsLane 91 = .ok (.iload_n 3, 1) := by decide +kernel
theorem dX10_readsLane_92 : decode cX10_readsLane 92 = .ok (.dup2, 1) := by decide +kernel
theorem dX10_readsLane_93 : decode cX10_readsLane 93 = .ok (.iaload, 1) := by decide +kernel
theorem dX10_readsLane_94 : decode cX10_readsLane 94 = .ok (.iconst 1, 1) := by decide +kernel
theorem dX10_readsLane_95 : decode cX10_readsLane 95 = .ok (.iload_n 1, 1) := by decide +kernel
theorem dX10_readsLane_96 : decode cX10_readsLane 96 = .ok (.ishl, 1) := by decide +kernel
theorem dX10_readsLane_97 : decode cX10_readsLane 97 = .ok (.ior, 1) := by decide +kernel
theorem dX10_readsLane_98 : decode cX10_readsLane 98 = .ok (.iastore, 1) := by decide +kernel
theorem dX10_readsLane_99 : decode cX10_readsLane 99 = .ok (.aload_n 0, 1) := by decide +kernel
theorem dX10_readsLane_100 : decode cX10_readsLane 100 = .ok (.getfield 64, 3) := by decide +kernel
theorem dX10_readsLane_103 : decode cX10_readsLane 103 = .ok (.iconst 4, 1) := by decide +kernel
theorem dX10_readsLane_104 : decode cX10_readsLane 104 = .ok (.dup2, 1) := by decide +kernel
theorem dX10_readsLane_105 : decode cX10_readsLane 105 = .ok (.iaload, 1) := by decide +kernel
theorem dX10_readsLane_106 : decode cX10_readsLane 106 = .ok (.iconst 1, 1) := by decide +kernel
theorem dX10_readsLane_107 : decode cX10_readsLane 107 = .ok (.iadd, 1) := by decide +kernel
theorem dX10_readsLane_108 : decode cX10_readsLane 108 = .ok (.iastore, 1) := by decide +kernel
theorem dX10_readsLane_109 : decode cX10_readsLane 109 = .ok (.return_, 1) := by decide +kernel
theorem dX10_readsHouse_0 : decode cX10_readsHouse 0 = .ok (.aload_n 0, 1) := by decide +kernel
theorem dX10_readsHouse_1 : decode cX10_readsHouse 1 = .ok (.getfield 64, 3) := by decide +kernel
theorem dX10_readsHouse_4 : decode cX10_readsHouse 4 = .ok (.iconst 3, 1) := by decide +kernel
theorem dX10_readsHouse_5 : decode cX10_readsHouse 5 = .ok (.iaload, 1) := by decide +kernel
theorem dX10_readsHouse_6 : decode cX10_readsHouse 6 = .ok (.istore_n 1, 1) := by decide +kernel
theorem dX10_readsHouse_7 : decode cX10_readsHouse 7 = .ok (.aload_n 0, 1) := by decide +kernel
theorem dX10_readsHouse_8 : decode cX10_readsHouse 8 = .ok (.getfield 67, 3) := by decide +kernel
theorem dX10_readsHouse_11 : decode cX10_readsHouse 11 = .ok (.iload_n 1, 1) := by decide +kernel
theorem dX10_readsHouse_12 : decode cX10_readsHouse 12 = .ok (.aload_n 0, 1) := by decide +kernel
theorem dX10_readsHouse_13 : decode cX10_readsHouse 13 = .ok (.iconst 0, 1) := by decide +kernel
theorem dX10_readsHouse_14 : decode cX10_readsHouse 14 = .ok (.bipush 99, 2) := by decide +kernel
theorem dX10_readsHouse_16 : decode cX10_readsHouse 16 = .ok (.invokevirtual 292, 3) := by decide +kernel
theorem dX10_readsHouse_19 : decode cX10_readsHouse 19 = .ok (.iastore, 1) := by decide +kernel
theorem dX10_readsHouse_20 : decode cX10_readsHouse 20 = .ok (.aload_n 0, 1) := by decide +kernel
theorem dX10_readsHouse_21 : decode cX10_readsHouse 21 = .ok (.getfield 70, 3) := by decide +kernel
theorem dX10_readsHouse_24 : decode cX10_readsHouse 24 = .ok (.iload_n 1, 1) := by decide +kernel
theorem dX10_readsHouse_25 : decode cX10_readsHouse 25 = .ok (.aload_n 0, 1) := by decide +kernel
theorem dX10_readsHouse_26 : decode cX10_readsHouse 26 = .ok (.iconst 0, 1) := by decide +kernel
theorem dX10_readsHouse_27 : decode cX10_readsHouse 27 = .ok (.bipush 99, 2) := by decide +kernel
theorem dX10_readsHouse_29 : decode cX10_readsHouse 29 = .ok (.invokevirtual 292, 3) := by decide +kernel
theorem dX10_readsHouse_32 : decode cX10_readsHouse 32 = .ok (.iastore, 1) := by decide +kernel
theorem dX10_readsHouse_33 : decode cX10_readsHouse 33 = .ok (.aload_n 0, 1) := by decide +kernel
theorem dX10_readsHouse_34 : decode cX10_readsHouse 34 = .ok (.getfield 73, 3) := by decide +kernel
theorem dX10_readsHouse_37 : decode cX10_readsHouse 37 = .ok (.iload_n 1, 1) := by decide +kernel
theorem dX10_readsHouse_38 : decode cX10_readsHouse 38 = .ok (.aload_n 0, 1) := by decide +kernel
theorem dX10_readsHouse_39 : decode cX10_readsHouse 39 = .ok (.iconst 0, 1) := by decide +kernel
theorem dX10_readsHouse_40 : decode cX10_readsHouse 40 = .ok (.bipush 20, 2) := by decide +kernel
theorem dX10_readsHouse_42 : decode cX10_readsHouse 42 = .ok (.invokevirtual 292, 3) := by decide +kernel
theorem dX10_readsHouse_45 : decode cX10_readsHouse 45 = .ok (.iastore, 1) := by decide +kernel
theorem dX10_readsHouse_46 : decode cX10_readsHouse 46 = .ok (.aload_n 0, 1) := by decide +kernel
theorem dX10_readsHouse_47 : decode cX10_readsHouse 47 = .ok (.getfield 76, 3) := by decide +kernel
theorem dX10_readsHouse_50 : decode cX10_readsHouse 50 = .ok (.iload_n 1, 1) := by decide +kernel
theorem dX10_readsHouse_51 : decode cX10_readsHouse 51 = .ok (.iconst 0, 1) := by decide +kernel
theorem dX10_readsHouse_52 : decode cX10_readsHouse 52 = .ok (.iastore, 1) := by decide +kernel
theorem dX10_readsHouse_53 : decode cX10_readsHouse 53 = .ok (.aload_n 0, 1) := by decide +kernel
theorem dX10_readsHouse_54 : decode cX10_readsHouse 54 = .ok (.getfield 79, 3) := by decide +kernel
theorem dX10_readsHouse_57 : decode cX10_readsHouse 57 = .ok (.iload_n 1, 1) := by decide +kernel
theorem dX10_readsHouse_58 : decode cX10_readsHouse 58 = .ok (.iconst 0, 1) := by decide +kernel
theorem dX10_readsHouse_59 : decode cX10_readsHouse 59 = .ok (.iastore, 1) := by decide +kernel
theorem dX10_readsHouse_60 : decode cX10_readsHouse 60 = .ok (.aload_n 0, 1) := by decide +kernel
theorem dX10_readsHouse_61 : decode cX10_readsHouse 61 = .ok (.getfield 64, 3) := by decide +kernel
theorem dX10_readsHouse_64 : decode cX10_readsHouse 64 = .ok (.iconst 3, 1) := by decide +kernel
theorem dX10_readsHouse_65 : decode cX10_readsHouse 65 = .ok (.dup2, 1) := by decide +kernel
theorem dX10_readsHouse_66 : decode cX10_readsHouse 66 = .ok (.iaload, 1) := by decide +kernel
theorem dX10_readsHouse_67 : decode cX10_readsHouse 67 = .ok (.iconst 1, 1) := by decide +kernel
theorem dX10_readsHouse_68 : decode cX10_readsHouse 68 = .ok (.iadd, 1) := by decide +kernel
theorem dX10_readsHouse_69 : decode cX10_readsHouse 69 = .ok (.iastore, 1) := by decide +kernel
theorem dX10_readsHouse_70 : decode cX10_readsHouse 70 = .ok (.return_, 1) := by decide +kernel
theorem dX10_duchyPart_0 : decode cX10_duchyPart 0 = .ok (.iload_n 1, 1) := by decide +kernel
theorem dX10_duchyPart_1 : decode cX10_duchyPart 1 = .ok (.tableswitch 183 0 4 #[35, 77, 84, 91, 130], 35) := by decide +kernel
theorem dX10_duchyPart_36 : decode cX10_duchyPart 36 = .ok (.aload_n 0, 1) := by decide +kernel
theorem dX10_duchyPart_37 : decode cX10_duchyPart 37 = .ok (.getfield 64, 3) := by decide +kernel
theorem dX10_duchyPart_40 : decode cX10_duchyPart 40 = .ok (.iconst 0, 1) := by decide +kernel
theorem dX10_duchyPart_41 : decode cX10_duchyPart 41 = .ok (.aload_n 0, 1) := by decide +kernel
theorem dX10_duchyPart_42 : decode cX10_duchyPart 42 = .ok (.iconst 0, 1) := by decide +kernel
theorem dX10_duchyPart_43 : decode cX10_duchyPart 43 = .ok (.bipush 100, 2) := by decide +kernel
theorem dX10_duchyPart_45 : decode cX10_duchyPart 45 = .ok (.invokevirtual 292, 3) := by decide +kernel
theorem dX10_duchyPart_48 : decode cX10_duchyPart 48 = .ok (.iastore, 1) := by decide +kernel
theorem dX10_duchyPart_49 : decode cX10_duchyPart 49 = .ok (.aload_n 0, 1) := by decide +kernel
theorem dX10_duchyPart_50 : decode cX10_duchyPart 50 = .ok (.getfield 64, 3) := by decide +kernel
theorem dX10_duchyPart_53 : decode cX10_duchyPart 53 = .ok (.iconst 1, 1) := by decide +kernel
theorem dX10_duchyPart_54 : decode cX10_duchyPart 54 = .ok (.aload_n 0, 1) := by decide +kernel
theorem dX10_duchyPart_55 : decode cX10_duchyPart 55 = .ok (.iconst 0, 1) := by decide +kernel
theorem dX10_duchyPart_56 : decode cX10_duchyPart 56 = .ok (.bipush 20, 2) := by decide +kernel
theorem dX10_duchyPart_58 : decode cX10_duchyPart 58 = .ok (.invokevirtual 292, 3) := by decide +kernel
theorem dX10_duchyPart_61 : decode cX10_duchyPart 61 = .ok (.iastore, 1) := by decide +kernel
theorem dX10_duchyPart_62 : decode cX10_duchyPart 62 = .ok (.aload_n 0, 1) := by decide +kernel
theorem dX10_duchyPart_63 : decode cX10_duchyPart 63 = .ok (.getfield 64, 3) := by decide +kernel
theorem dX10_duchyPart_66 : decode cX10_duchyPart 66 = .ok (.iconst 2, 1) := by decide +kernel
theorem dX10_duchyPart_67 : decode cX10_duchyPart 67 = .ok (.aload_n 0, 1) := by decide +kernel
theorem dX10_duchyPart_68 : decode cX10_duchyPart 68 = .ok (.iconst 0, 1) := by decide +kernel
theorem dX10_duchyPart_69 : decode cX10_duchyPart 69 = .ok (.bipush 50, 2) := by decide +kernel
theorem dX10_duchyPart_71 : decode cX10_duchyPart 71 = .ok (.invokevirtual 292, 3) := by decide +kernel
theorem dX10_duchyPart_74 : decode cX10_duchyPart 74 = .ok (.iastore, 1) := by decide +kernel
theorem dX10_duchyPart_75 : decode cX10_duchyPart 75 = .ok (.goto 142, 3) := by decide +kernel
theorem dX10_duchyPart_78 : decode cX10_duchyPart 78 = .ok (.aload_n 0, 1) := by decide +kernel
theorem dX10_duchyPart_79 : decode cX10_duchyPart 79 = .ok (.invokevirtual 296, 3) := by decide +kernel
theorem dX10_duchyPart_82 : decode cX10_duchyPart 82 = .ok (.goto 135, 3) := by decide +kernel
theorem dX10_duchyPart_85 : decode cX10_duchyPart 85 = .ok (.aload_n 0, 1) := by decide +kernel
theorem dX10_duchyPart_86 : decode cX10_duchyPart 86 = .ok (.invokevirtual 299, 3) := by decide +kernel
theorem dX10_duchyPart_89 : decode cX10_duchyPart 89 = .ok (.goto 128, 3) := by decide +kernel
theorem dX10_duchyPart_92 : decode cX10_duchyPart 92 = .ok (.aload_n 0, 1) := by decide +kernel
theorem dX10_duchyPart_93 : decode cX10_duchyPart 93 = .ok (.iconst 0, 1) := by decide +kernel
theorem dX10_duchyPart_94 : decode cX10_duchyPart 94 = .ok (.aload_n 0, 1) := by decide +kernel
theorem dX10_duchyPart_95 : decode cX10_duchyPart 95 = .ok (.getfield 64, 3) := by decide +kernel
theorem dX10_duchyPart_98 : decode cX10_duchyPart 98 = .ok (.iconst 3, 1) := by decide +kernel
theorem dX10_duchyPart_99 : decode cX10_duchyPart 99 = .ok (.iaload, 1) := by decide +kernel
theorem dX10_duchyPart_100 : decode cX10_duchyPart 100 = .ok (.iconst 1, 1) := by decide +kernel
theorem dX10_duchyPart_101 : decode cX10_duchyPart 101 = .ok (.isub, 1) := by decide +kernel
theorem dX10_duchyPart_102 : decode cX10_duchyPart 102 = .ok (.invokevirtual 292, 3) := by decide +kernel
theorem dX10_duchyPart_105 : decode cX10_duchyPart 105 = .ok (.istore_n 2, 1) := by decide +kernel
theorem dX10_duchyPart_106 : decode cX10_duchyPart 106 = .ok (.aload_n 0, 1) := by decide +kernel
theorem dX10_duchyPart_107 : decode cX10_duchyPart 107 = .ok (.iconst 0, 1) := by decide +kernel
theorem dX10_duchyPart_108 : decode cX10_duchyPart 108 = .ok (.bipush 50, 2) := by decide +kernel
theorem dX10_duchyPart_110 : decode cX10_duchyPart 110 = .ok (.invokevirtual 292, 3) := by decide +kernel
theorem dX10_duchyPart_113 : decode cX10_duchyPart 113 = .ok (.istore_n 3, 1) := by decide +kernel
theorem dX10_duchyPart_114 : decode cX10_duchyPart 114 = .ok (.aload_n 0, 1) := by decide +kernel
theorem dX10_duchyPart_115 : decode cX10_duchyPart 115 = .ok (.getfield 187, 3) := by decide +kernel
theorem dX10_duchyPart_118 : decode cX10_duchyPart 118 = .ok (.ifCond .ne 99, 3) := by decide +kernel
theorem dX10_duchyPart_121 : decode cX10_duchyPart 121 = .ok (.aload_n 0, 1) := by decide +kernel
theorem dX10_duchyPart_122 : decode cX10_duchyPart 122 = .ok (.getfield 76, 3) := by decide +kernel
theorem dX10_duchyPart_125 : decode cX10_duchyPart 125 = .ok (.iload_n 2, 1) := by decide +kernel
theorem dX10_duchyPart_126 : decode cX10_duchyPart 126 = .ok (.iload_n 3, 1) := by decide +kernel
theorem dX10_duchyPart_127 : decode cX10_duchyPart 127 = .ok (.iastore, 1) := by decide +kernel
theorem dX10_duchyPart_128 : decode cX10_duchyPart 128 = .ok (.goto 89, 3) := by decide +kernel
theorem dX10_duchyPart_131 : decode cX10_duchyPart 131 = .ok (.aload_n 0, 1) := by decide +kernel
theorem dX10_duchyPart_132 : decode cX10_duchyPart 132 = .ok (.getfield 64, 3) := by decide +kernel
theorem dX10_duchyPart_135 : decode cX10_duchyPart 135 = .ok (.iconst 5, 1) := by decide +kernel
theorem dX10_duchyPart_136 : decode cX10_duchyPart 136 = .ok (.iaload, 1) := by decide +kernel
theorem dX10_duchyPart_137 : decode cX10_duchyPart 137 = .ok (.istore_n 2, 1) := by decide +kernel
theorem dX10_duchyPart_138 : decode cX10_duchyPart 138 = .ok (.aload_n 0, 1) := by decide +kernel
theorem dX10_duchyPart_139 : decode cX10_duchyPart 139 = .ok (.getfield 82, 3) := by decide +kernel
theorem dX10_duchyPart_142 : decode cX10_duchyPart 142 = .ok (.iload_n 2, 1) := by decide +kernel
theorem dX10_duchyPart_143 : decode cX10_duchyPart 143 = .ok (.aload_n 0, 1) := by decide +kernel
theorem dX10_duchyPart_144 : decode cX10_duchyPart 144 = .ok (.iconst 0, 1) := by decide +kernel
theorem dX10_duchyPart_145 : decode cX10_duchyPart 145 = .ok (.aload_n 0, 1) := by decide +kernel
theorem dX10_duchyPart_146 : decode cX10_duchyPart 146 = .ok (.getfield 64, 3) := by decide +kernel
theorem dX10_duchyPart_149 : decode cX10_duchyPart 149 = .ok (.iconst 3, 1) := by decide +kernel
theorem dX10_duchyPart_150 : decode cX10_duchyPart 150 = .ok (.iaload, 1) := by decide +kernel
theorem dX10_duchyPart_151 : decode cX10_duchyPart 151 = .ok (.iconst 1, 1) := by decide +kernel
theorem dX10_duchyPart_152 : decode cX10_duchyPart 152 = .ok (.isub, 1) := by decide +kernel
theorem dX10_duchyPart_153 : decode cX10_duchyPart 153 = .ok (.invokevirtual 292, 3) := by decide +kernel
theorem dX10_duchyPart_156 : decode cX10_duchyPart 156 = .ok (.iastore, 1) := by decide +kernel
theorem dX10_duchyPart_157 : decode cX10_duchyPart 157 = .ok (.aload_n 0, 1) := by decide +kernel
theorem dX10_duchyPart_158 : decode cX10_duchyPart 158 = .ok (.getfield 85, 3) := by decide +kernel
theorem dX10_duchyPart_161 : decode cX10_duchyPart 161 = .ok (.iload_n 2, 1) := by decide +kernel
theorem dX10_duchyPart_162 : decode cX10_duchyPart 162 = .ok (.aload_n 0, 1) := by decide +kernel
theorem dX10_duchyPart_163 : decode cX10_duchyPart 163 = .ok (.iconst 1, 1) := by decide +kernel
theorem dX10_duchyPart_164 : decode cX10_duchyPart 164 = .ok (.sipush 200, 3) := by decide +kernel
theorem dX10_duchyPart_167 : decode cX10_duchyPart 167 = .ok (.invokevirtual 292, 3) := by decide +kernel
theorem dX10_duchyPart_170 : decode cX10_duchyPart 170 = .ok (.iastore, 1) := by decide +kernel
theorem dX10_duchyPart_171 : decode cX10_duchyPart 171 = .ok (.aload_n 0, 1) := by decide +kernel
theorem dX10_duchyPart_172 : decode cX10_duchyPart 172 = .ok (.getfield 64, 3) := by decide +kernel
theorem dX10_duchyPart_175 : decode cX10_duchyPart 175 = .ok (.iconst 5, 1) := by decide +kernel
theorem dX10_duchyPart_176 : decode cX10_duchyPart 176 = .ok (.dup2, 1) := by decide +kernel
theorem dX10_duchyPart_177 : decode cX10_duchyPart 177 = .ok (.iaload, 1) := by decide +kernel
theorem dX10_duchyPart_178 : decode cX10_duchyPart 178 = .ok (.iconst 1, 1) := by decide +kernel
theorem dX10_duchyPart_179 : decode cX10_duchyPart 179 = .ok (.iadd, 1) := by decide +kernel
theorem dX10_duchyPart_180 : decode cX10_duchyPart 180 = .ok (.iastore, 1) := by decide +kernel
theorem dX10_duchyPart_181 : decode cX10_duchyPart 181 = .ok (.goto 36, 3) := by decide +kernel
theorem dX10_duchyPart_184 : decode cX10_duchyPart 184 = .ok (.aload_n 0, 1) := by decide +kernel
theorem dX10_duchyPart_185 : decode cX10_duchyPart 185 = .ok (.iconst 0, 1) := by decide +kernel
theorem dX10_duchyPart_186 : decode cX10_duchyPart 186 = .ok (.bipush 99, 2) := by decide +kernel
theorem dX10_duchyPart_188 : decode cX10_duchyPart 188 = .ok (.invokevirtual 292, 3) := by decide +kernel
theorem dX10_duchyPart_191 : decode cX10_duchyPart 191 = .ok (.istore_n 2, 1) := by decide +kernel
theorem dX10_duchyPart_192 : decode cX10_duchyPart 192 = .ok (.aload_n 0, 1) := by decide +kernel
theorem dX10_duchyPart_193 : decode cX10_duchyPart 193 = .ok (.getfield 187, 3) := by decide +kernel
theorem dX10_duchyPart_196 : decode cX10_duchyPart 196 = .ok (.ifCond .ne 10, 3) := by decide +kernel
theorem dX10_duchyPart_199 : decode cX10_duchyPart 199 = .ok (.aload_n 0, 1) := by decide +kernel
theorem dX10_duchyPart_200 : decode cX10_duchyPart 200 = .ok (.getfield 88, 3) := by decide +kernel
theorem dX10_duchyPart_203 : decode cX10_duchyPart 203 = .ok (.iload_n 2, 1) := by decide +kernel
theorem dX10_duchyPart_204 : decode cX10_duchyPart 204 = .ok (.iconst 1, 1) := by decide +kernel
theorem dX10_duchyPart_205 : decode cX10_duchyPart 205 = .ok (.iastore, 1) := by decide +kernel
theorem dX10_duchyPart_206 : decode cX10_duchyPart 206 = .ok (.aload_n 0, 1) := by decide +kernel
theorem dX10_duchyPart_207 : decode cX10_duchyPart 207 = .ok (.getfield 64, 3) := by decide +kernel
theorem dX10_duchyPart_210 : decode cX10_duchyPart 210 = .ok (.bipush 6, 2) := by decide +kernel
theorem dX10_duchyPart_212 : decode cX10_duchyPart 212 = .ok (.dup2, 1) := by decide +kernel
theorem dX10_duchyPart_213 : decode cX10_duchyPart 213 = .ok (.iaload, 1) := by decide +kernel
theorem dX10_duchyPart_214 : decode cX10_duchyPart 214 = .ok (.iconst 1, 1) := by decide +kernel
theorem dX10_duchyPart_215 : decode cX10_duchyPart 215 = .ok (.iadd, 1) := by decide +kernel
theorem dX10_duchyPart_216 : decode cX10_duchyPart 216 = .ok (.iastore, 1) := by decide +kernel
theorem dX10_duchyPart_217 : decode cX10_duchyPart 217 = .ok (.return_, 1) := by decide +kernel
theorem dX10_isFull_0 : decode cX10_isFull 0 = .ok (.iload_n 2, 1) := by decide +kernel
theorem dX10_isFull_1 : decode cX10_isFull 1 = .ok (.bipush 40, 2) := by decide +kernel
theorem dX10_isFull_3 : decode cX10_isFull 3 = .ok (.if_icmp .eq 24, 3) := by decide +kernel
theorem dX10_isFull_6 : decode cX10_isFull 6 = .ok (.iload_n 1, 1) := by decide +kernel
theorem dX10_isFull_7 : decode cX10_isFull 7 = .ok (.ifCond .ne 7, 3) := by decide +kernel
theorem dX10_isFull_10 : decode cX10_isFull 10 = .ok (.iconst 1, 1) := by decide +kernel
theorem dX10_isFull_11 : decode cX10_isFull 11 = .ok (.goto 4, 3) := by decide +kernel
theorem dX10_isFull_14 : decode cX10_isFull 14 = .ok (.iconst 0, 1) := by decide +kernel
theorem dX10_isFull_15 : decode cX10_isFull 15 = .ok (.iload_n 2, 1) := by decide +kernel
theorem dX10_isFull_16 : decode cX10_isFull 16 = .ok (.ifCond .ne 7, 3) := by decide +kernel
theorem dX10_isFull_19 : decode cX10_isFull 19 = .ok (.iconst 1, 1) := by decide +kernel
theorem dX10_isFull_20 : decode cX10_isFull 20 = .ok (.goto 4, 3) := by decide +kernel
theorem dX10_isFull_23 : decode cX10_isFull 23 = .ok (.iconst 0, 1) := by decide +kernel
theorem dX10_isFull_24 : decode cX10_isFull 24 = .ok (.if_icmp .eq 5, 3) := by decide +kernel
theorem dX10_isFull_27 : decode cX10_isFull 27 = .ok (.iconst 1, 1) := by decide +kernel
theorem dX10_isFull_28 : decode cX10_isFull 28 = .ok (.ireturn, 1) := by decide +kernel
theorem dX10_isFull_29 : decode cX10_isFull 29 = .ok (.iload_n 1, 1) := by decide +kernel
theorem dX10_isFull_30 : decode cX10_isFull 30 = .ok (.tableswitch 102 1 5 #[34, 51, 102, 68, 84], 34) := by decide +kernel
theorem dX10_isFull_64 : decode cX10_isFull 64 = .ok (.aload_n 0, 1) := by decide +kernel
theorem dX10_isFull_65 : decode cX10_isFull 65 = .ok (.getfield 64, 3) := by decide +kernel
theorem dX10_isFull_68 : decode cX10_isFull 68 = .ok (.iconst 3, 1) := by decide +kernel
theorem dX10_isFull_69 : decode cX10_isFull 69 = .ok (.iaload, 1) := by decide +kernel
theorem dX10_isFull_70 : decode cX10_isFull 70 = .ok (.bipush 8, 2) := by decide +kernel
theorem dX10_isFull_72 : decode cX10_isFull 72 = .ok (.if_icmp .ne 7, 3) := by decide +kernel
theorem dX10_isFull_75 : decode cX10_isFull 75 = .ok (.iconst 1, 1) := by decide +kernel
theorem dX10_isFull_76 : decode cX10_isFull 76 = .ok (.goto 4, 3) := by decide +kernel
theorem dX10_isFull_79 : decode cX10_isFull 79 = .ok (.iconst 0, 1) := by decide +kernel
theorem dX10_isFull_80 : decode cX10_isFull 80 = .ok (.ireturn, 1) := by decide +kernel
theorem dX10_isFull_81 : decode cX10_isFull 81 = .ok (.aload_n 0, 1) := by decide +kernel
theorem dX10_isFull_82 : decode cX10_isFull 82 = .ok (.getfield 64, 3) := by decide +kernel
theorem dX10_isFull_85 : decode cX10_isFull 85 = .ok (.iconst 4, 1) := by decide +kernel
theorem dX10_isFull_86 : decode cX10_isFull 86 = .ok (.iaload, 1) := by decide +kernel
theorem dX10_isFull_87 : decode cX10_isFull 87 = .ok (.bipush 12, 2) := by decide +kernel
theorem dX10_isFull_89 : decode cX10_isFull 89 = .ok (.if_icmp .ne 7, 3) := by decide +kernel
theorem dX10_isFull_92 : decode cX10_isFull 92 = .ok (.iconst 1, 1) := by decide +kernel
theorem dX10_isFull_93 : decode cX10_isFull 93 = .ok (.goto 4, 3) := by decide +kernel
theorem dX10_isFull_96 : decode cX10_isFull 96 = .ok (.iconst 0, 1) := by decide +kernel
theorem dX10_isFull_97 : decode cX10_isFull 97 = .ok (.ireturn, 1) := by decide +kernel
theorem dX10_isFull_98 : decode cX10_isFull 98 = .ok (.aload_n 0, 1) := by decide +kernel
theorem dX10_isFull_99 : decode cX10_isFull 99 = .ok (.getfield 64, 3) := by decide +kernel
theorem dX10_isFull_102 : decode cX10_isFull 102 = .ok (.iconst 5, 1) := by decide +kernel
theorem dX10_isFull_103 : decode cX10_isFull 103 = .ok (.iaload, 1) := by decide +kernel
theorem dX10_isFull_104 : decode cX10_isFull 104 = .ok (.iconst 3, 1) := by decide +kernel
theorem dX10_isFull_105 : decode cX10_isFull 105 = .ok (.if_icmp .ne 7, 3) := by decide +kernel
theorem dX10_isFull_108 : decode cX10_isFull 108 = .ok (.iconst 1, 1) := by decide +kernel
theorem dX10_isFull_109 : decode cX10_isFull 109 = .ok (.goto 4, 3) := by decide +kernel
theorem dX10_isFull_112 : decode cX10_isFull 112 = .ok (.iconst 0, 1) := by decide +kernel
theorem dX10_isFull_113 : decode cX10_isFull 113 = .ok (.ireturn, 1) := by decide +kernel
theorem dX10_isFull_114 : decode cX10_isFull 114 = .ok (.aload_n 0, 1) := by decide +kernel
theorem dX10_isFull_115 : decode cX10_isFull 115 = .ok (.getfield 64, 3) := by decide +kernel
theorem dX10_isFull_118 : decode cX10_isFull 118 = .ok (.bipush 6, 2) := by decide +kernel
theorem dX10_isFull_120 : decode cX10_isFull 120 = .ok (.iaload, 1) := by decide +kernel
theorem dX10_isFull_121 : decode cX10_isFull 121 = .ok (.bipush 6, 2) := by decide +kernel
theorem dX10_isFull_123 : decode cX10_isFull 123 = .ok (.if_icmp .ne 7, 3) := by decide +kernel
theorem dX10_isFull_126 : decode cX10_isFull 126 = .ok (.iconst 1, 1) := by decide +kernel
theorem dX10_isFull_127 : decode cX10_isFull 127 = .ok (.goto 4, 3) := by decide +kernel
theorem dX10_isFull_130 : decode cX10_isFull 130 = .ok (.iconst 0, 1) := by decide +kernel
theorem dX10_isFull_131 : decode cX10_isFull 131 = .ok (.ireturn, 1) := by decide +kernel
theorem dX10_isFull_132 : decode cX10_isFull 132 = .ok (.iconst 0, 1) := by decide +kernel
theorem dX10_isFull_133 : decode cX10_isFull 133 = .ok (.ireturn, 1) := by decide +kernel
theorem dX10_duchyClause_0 : decode cX10_duchyClause 0 = .ok (.aload_n 0, 1) := by decide +kernel
theorem dX10_duchyClause_1 : decode cX10_duchyClause 1 = .ok (.invokevirtual 210, 3) := by decide +kernel
theorem dX10_duchyClause_4 : decode cX10_duchyClause 4 = .ok (.aload_n 0, 1) := by decide +kernel
theorem dX10_duchyClause_5 : decode cX10_duchyClause 5 = .ok (.getfield 190, 3) := by decide +kernel
theorem dX10_duchyClause_8 : decode cX10_duchyClause 8 = .ok (.istore_n 2, 1) := by decide +kernel
theorem dX10_duchyClause_9 : decode cX10_duchyClause 9 = .ok (.iconst 0, 1) := by decide +kernel
theorem dX10_duchyClause_10 : decode cX10_duchyClause 10 = .ok (.istore_n 3, 1) := by decide +kernel
theorem dX10_duchyClause_11 : decode cX10_duchyClause 11 = .ok (.iload_n 3, 1) := by decide +kernel
theorem dX10_duchyClause_12 : decode cX10_duchyClause 12 = .ok (.bipush 6, 2) := by decide +kernel
theorem dX10_duchyClause_14 : decode cX10_duchyClause 14 = .ok (.if_icmp .ge 20, 3) := by decide +kernel
theorem dX10_duchyClause_17 : decode cX10_duchyClause 17 = .ok (.aload_n 0, 1) := by decide +kernel
theorem dX10_duchyClause_18 : decode cX10_duchyClause 18 = .ok (.iload_n 3, 1) := by decide +kernel
theorem dX10_duchyClause_19 : decode cX10_duchyClause 19 = .ok (.invokestatic 302, 3) := by decide +kernel
theorem dX10_duchyClause_22 : decode cX10_duchyClause 22 = .ok (.invokevirtual 213, 3) := by decide +kernel
theorem dX10_duchyClause_25 : decode cX10_duchyClause 25 = .ok (.ifCond .ne 9, 3) := by decide +kernel
theorem dX10_duchyClause_28 : decode cX10_duchyClause 28 = .ok (.iinc 3 1, 3) := by decide +kernel
theorem dX10_duchyClause_31 : decode cX10_duchyClause 31 = .ok (.goto (-20), 3) := by decide +kernel
theorem dX10_duchyClause_34 : decode cX10_duchyClause 34 = .ok (.iload_n 3, 1) := by decide +kernel
theorem dX10_duchyClause_35 : decode cX10_duchyClause 35 = .ok (.bipush 6, 2) := by decide +kernel
theorem dX10_duchyClause_37 : decode cX10_duchyClause 37 = .ok (.if_icmp .ne 10, 3) := by decide +kernel
theorem dX10_duchyClause_40 : decode cX10_duchyClause 40 = .ok (.aload_n 0, 1) := by decide +kernel
theorem dX10_duchyClause_41 : decode cX10_duchyClause 41 = .ok (.iconst 0, 1) := by decide +kernel
theorem dX10_duchyClause_42 : decode cX10_duchyClause 42 = .ok (.iload_n 2, 1) := by decide +kernel
theorem dX10_duchyClause_43 : decode cX10_duchyClause 43 = .ok (.invokevirtual 226, 3) := by decide +kernel
theorem dX10_duchyClause_46 : decode cX10_duchyClause 46 = .ok (.return_, 1) := by decide +kernel
theorem dX10_duchyClause_47 : decode cX10_duchyClause 47 = .ok (.aload_n 0, 1) := by decide +kernel
theorem dX10_duchyClause_48 : decode cX10_duchyClause 48 = .ok (.iload_n 3, 1) := by decide +kernel
theorem dX10_duchyClause_49 : decode cX10_duchyClause 49 = .ok (.iload_n 1, 1) := by decide +kernel
theorem dX10_duchyClause_50 : decode cX10_duchyClause 50 = .ok (.invokevirtual 305, 3) := by decide +kernel
theorem dX10_duchyClause_53 : decode cX10_duchyClause 53 = .ok (.ifCond .eq 10, 3) := by decide +kernel
theorem dX10_duchyClause_56 : decode cX10_duchyClause 56 = .ok (.aload_n 0, 1) := by decide +kernel
theorem dX10_duchyClause_57 : decode cX10_duchyClause 57 = .ok (.iconst 4, 1) := by decide +kernel
theorem dX10_duchyClause_58 : decode cX10_duchyClause 58 = .ok (.iload_n 2, 1) := by decide +kernel
theorem dX10_duchyClause_59 : decode cX10_duchyClause 59 = .ok (.invokevirtual 226, 3) := by decide +kernel
theorem dX10_duchyClause_62 : decode cX10_duchyClause 62 = .ok (.return_, 1) := by decide +kernel
theorem dX10_duchyClause_63 : decode cX10_duchyClause 63 = .ok (.aload_n 0, 1) := by decide +kernel
theorem dX10_duchyClause_64 : decode cX10_duchyClause 64 = .ok (.dup, 1) := by decide +kernel
theorem dX10_duchyClause_65 : decode cX10_duchyClause 65 = .ok (.getfield 190, 3) := by decide +kernel
theorem dX10_duchyClause_68 : decode cX10_duchyClause 68 = .ok (.iload_n 3, 1) := by decide +kernel
theorem dX10_duchyClause_69 : decode cX10_duchyClause 69 = .ok (.invokestatic 302, 3) := by decide +kernel
theorem dX10_duchyClause_72 : decode cX10_duchyClause 72 = .ok (.invokevirtual 201, 3) := by decide +kernel
theorem dX10_duchyClause_75 : decode cX10_duchyClause 75 = .ok (.iadd, 1) := by decide +kernel
theorem dX10_duchyClause_76 : decode cX10_duchyClause 76 = .ok (.putfield 190, 3) := by decide +kernel
theorem dX10_duchyClause_79 : decode cX10_duchyClause 79 = .ok (.aload_n 0, 1) := by decide +kernel
theorem dX10_duchyClause_80 : decode cX10_duchyClause 80 = .ok (.iload_n 3, 1) := by decide +kernel
theorem dX10_duchyClause_81 : decode cX10_duchyClause 81 = .ok (.invokevirtual 308, 3) := by decide +kernel
theorem dX10_duchyClause_84 : decode cX10_duchyClause 84 = .ok (.return_, 1) := by decide +kernel
theorem dX10_copies_0 : decode cX10_copies 0 = .ok (.iconst 0, 1) := by decide +kernel
theorem dX10_copies_1 : decode cX10_copies 1 = .ok (.istore_n 2, 1) := by decide +kernel
theorem dX10_copies_2 : decode cX10_copies 2 = .ok (.iload_n 2, 1) := by decide +kernel
theorem dX10_copies_3 : decode cX10_copies 3 = .ok (.aload_n 0, 1) := by decide +kernel
theorem dX10_copies_4 : decode cX10_copies 4 = .ok (.arraylength, 1) := by decide +kernel
theorem dX10_copies_5 : decode cX10_copies 5 = .ok (.if_icmp .ge 15, 3) := by decide +kernel
theorem dX10_copies_8 : decode cX10_copies 8 = .ok (.aload_n 1, 1) := by decide +kernel
theorem dX10_copies_9 : decode cX10_copies 9 = .ok (.iload_n 2, 1) := by decide +kernel
theorem dX10_copies_10 : decode cX10_copies 10 = .ok (.aload_n 0, 1) := by decide +kernel
theorem dX10_copies_11 : decode cX10_copies 11 = .ok (.iload_n 2, 1) := by decide +kernel
theorem dX10_copies_12 : decode cX10_copies 12 = .ok (.iaload, 1) := by decide +kernel
theorem dX10_copies_13 : decode cX10_copies 13 = .ok (.iastore, 1) := by decide +kernel
theorem dX10_copies_14 : decode cX10_copies 14 = .ok (.iinc 2 1, 3) := by decide +kernel
theorem dX10_copies_17 : decode cX10_copies 17 = .ok (.goto (-15), 3) := by decide +kernel
theorem dX10_copies_20 : decode cX10_copies 20 = .ok (.return_, 1) := by decide +kernel
theorem dX10_goesOn_0 : decode cX10_goesOn 0 = .ok (.aload_n 0, 1) := by decide +kernel
theorem dX10_goesOn_1 : decode cX10_goesOn 1 = .ok (.invokevirtual 210, 3) := by decide +kernel
theorem dX10_goesOn_4 : decode cX10_goesOn 4 = .ok (.aload_n 0, 1) := by decide +kernel
theorem dX10_goesOn_5 : decode cX10_goesOn 5 = .ok (.getfield 187, 3) := by decide +kernel
theorem dX10_goesOn_8 : decode cX10_goesOn 8 = .ok (.ifCond .ne 32, 3) := by decide +kernel
theorem dX10_goesOn_11 : decode cX10_goesOn 11 = .ok (.aload_n 0, 1) := by decide +kernel
theorem dX10_goesOn_12 : decode cX10_goesOn 12 = .ok (.getfield 190, 3) := by decide +kernel
theorem dX10_goesOn_15 : decode cX10_goesOn 15 = .ok (.aload_n 0, 1) := by decide +kernel
theorem dX10_goesOn_16 : decode cX10_goesOn 16 = .ok (.getfield 160, 3) := by decide +kernel
theorem dX10_goesOn_19 : decode cX10_goesOn 19 = .ok (.if_icmp .ge 21, 3) := by decide +kernel
theorem dX10_goesOn_22 : decode cX10_goesOn 22 = .ok (.aload_n 0, 1) := by decide +kernel
theorem dX10_goesOn_23 : decode cX10_goesOn 23 = .ok (.invokevirtual 193, 3) := by decide +kernel
theorem dX10_goesOn_26 : decode cX10_goesOn 26 = .ok (.bipush 59, 2) := by decide +kernel
theorem dX10_goesOn_28 : decode cX10_goesOn 28 = .ok (.if_icmp .eq 12, 3) := by decide +kernel
theorem dX10_goesOn_31 : decode cX10_goesOn 31 = .ok (.aload_n 0, 1) := by decide +kernel
theorem dX10_goesOn_32 : decode cX10_goesOn 32 = .ok (.iconst 0, 1) := by decide +kernel
theorem dX10_goesOn_33 : decode cX10_goesOn 33 = .ok (.aload_n 0, 1) := by decide +kernel
theorem dX10_goesOn_34 : decode cX10_goesOn 34 = .ok (.getfield 190, 3) := by decide +kernel
theorem dX10_goesOn_37 : decode cX10_goesOn 37 = .ok (.invokevirtual 226, 3) := by decide +kernel
theorem dX10_goesOn_40 : decode cX10_goesOn 40 = .ok (.aload_n 0, 1) := by decide +kernel
theorem dX10_goesOn_41 : decode cX10_goesOn 41 = .ok (.getfield 187, 3) := by decide +kernel
theorem dX10_goesOn_44 : decode cX10_goesOn 44 = .ok (.ifCond .ne 18, 3) := by decide +kernel
theorem dX10_goesOn_47 : decode cX10_goesOn 47 = .ok (.aload_n 0, 1) := by decide +kernel
theorem dX10_goesOn_48 : decode cX10_goesOn 48 = .ok (.getfield 190, 3) := by decide +kernel
theorem dX10_goesOn_51 : decode cX10_goesOn 51 = .ok (.aload_n 0, 1) := by decide +kernel
theorem dX10_goesOn_52 : decode cX10_goesOn 52 = .ok (.getfield 160, 3) := by decide +kernel
theorem dX10_goesOn_55 : decode cX10_goesOn 55 = .ok (.if_icmp .ge 7, 3) := by decide +kernel
theorem dX10_goesOn_58 : decode cX10_goesOn 58 = .ok (.iconst 1, 1) := by decide +kernel
theorem dX10_goesOn_59 : decode cX10_goesOn 59 = .ok (.goto 4, 3) := by decide +kernel
theorem dX10_goesOn_62 : decode cX10_goesOn 62 = .ok (.iconst 0, 1) := by decide +kernel
theorem dX10_goesOn_63 : decode cX10_goesOn 63 = .ok (.istore_n 1, 1) := by decide +kernel
theorem dX10_goesOn_64 : decode cX10_goesOn 64 = .ok (.aload_n 0, 1) := by decide +kernel
theorem dX10_goesOn_65 : decode cX10_goesOn 65 = .ok (.dup, 1) := by decide +kernel
theorem dX10_goesOn_66 : decode cX10_goesOn 66 = .ok (.getfield 190, 3) := by decide +kernel
theorem dX10_goesOn_69 : decode cX10_goesOn 69 = .ok (.iconst 1, 1) := by decide +kernel
theorem dX10_goesOn_70 : decode cX10_goesOn 70 = .ok (.iadd, 1) := by decide +kernel
theorem dX10_goesOn_71 : decode cX10_goesOn 71 = .ok (.putfield 190, 3) := by decide +kernel
theorem dX10_goesOn_74 : decode cX10_goesOn 74 = .ok (.iload_n 1, 1) := by decide +kernel
theorem dX10_goesOn_75 : decode cX10_goesOn 75 = .ok (.ireturn, 1) := by decide +kernel
theorem dX10_starts_0 : decode cX10_starts 0 = .ok (.aload_n 0, 1) := by decide +kernel
theorem dX10_starts_1 : decode cX10_starts 1 = .ok (.iconst 0, 1) := by decide +kernel
theorem dX10_starts_2 : decode cX10_starts 2 = .ok (.putfield 190, 3) := by decide +kernel
theorem dX10_starts_5 : decode cX10_starts 5 = .ok (.aload_n 0, 1) := by decide +kernel
theorem dX10_starts_6 : decode cX10_starts 6 = .ok (.iconst 0, 1) := by decide +kernel
theorem dX10_starts_7 : decode cX10_starts 7 = .ok (.putfield 187, 3) := by decide +kernel
theorem dX10_starts_10 : decode cX10_starts 10 = .ok (.aload_n 0, 1) := by decide +kernel
theorem dX10_starts_11 : decode cX10_starts 11 = .ok (.iconst 0, 1) := by decide +kernel
theorem dX10_starts_12 : decode cX10_starts 12 = .ok (.putfield 220, 3) := by decide +kernel
theorem dX10_starts_15 : decode cX10_starts 15 = .ok (.aload_n 0, 1) := by decide +kernel
theorem dX10_starts_16 : decode cX10_starts 16 = .ok (.iconst 0, 1) := by decide +kernel
theorem dX10_starts_17 : decode cX10_starts 17 = .ok (.putfield 261, 3) := by decide +kernel
theorem dX10_starts_20 : decode cX10_starts 20 = .ok (.aload_n 0, 1) := by decide +kernel
theorem dX10_starts_21 : decode cX10_starts 21 = .ok (.iconst 0, 1) := by decide +kernel
theorem dX10_starts_22 : decode cX10_starts 22 = .ok (.putfield 223, 3) := by decide +kernel
theorem dX10_starts_25 : decode cX10_starts 25 = .ok (.return_, 1) := by decide +kernel
def fX10_opens_B40 (p1 : Int32) (st : St) : Option St := gd (ix (st.1 500 37) 402) (nm (ui st 547 (st.1 500 37).toNatClampNeg p1) (fun s2 => nm (ui s2 500 37 ((s2.1 500 37) + (1 : Int32))) (fun s3 => some s3)))
set_option maxRecDepth 100000 in
theorem wX10_opens_B40 {p : Program} {l : Launch} {e : Env} {s : State} {m : MethodId} {args : Array Value} {below : List Frame} {meth : Method} {c : Code} {E : Ev} (hL : ∀ k, fxM k = true → k ∈ eL E) {p1 : Int32} {sz : Nat} {res : St} (X : CX p s m args c E RX10 cX10_opens 2 (Af E sz)) (hr : meth.sig.returnType = none) (hlk : meth.locks = false) : ∀  (st : St) (H : Heap) (locs : List Loc), fX10_opens_B40 p1   st = some res → Gd E st (Af E sz) s H locs → ∀ ls : Array Slot, lv_has ls 2 [(0, .ref (eq E 500)), (1, .int p1)] → W p l e (rmk 1) s m args below meth c H locs 0 0 (MQ below (QWv E res sz) args s 0 0 (Af E sz)) (F0 m 40 ls []) := by
  have hx := X.1.1
  have hb := X.1.2.1
  intro  st H locs hf G ls hl
  unfold fX10_opens_B40 at hf
  refine lv_aload_n hx hb dX10_opens_40 rfl (lv_at hl 0 rfl) ?_
  refine gf10 X G (hL 500 rfl) rfl 46 (by decide) rfl kf_X10_117 iwX10 dX10_opens_41 ?_
  refine lv_aload_n hx hb dX10_opens_44 rfl (lv_at hl 0 rfl) ?_
  refine gf10 X G (hL 500 rfl) rfl 37 (by decide) rfl kf_X10_258 iwX10 dX10_opens_45 ?_
  refine lv_iload_n hx hb dX10_opens_48 rfl (lv_at hl 1 rfl) ?_
  obtain ⟨h1, hf⟩ := gd_s hf
  refine ia_st (k := 547) (n := 402) X G (hL 547 rfl) rfl (by decide) (ix_in h1) dX10_opens_49 (fun s2 es2 H locs G => ?_)
  have hf := nm_s hf s2 es2
  refine lv_aload_n hx hb dX10_opens_50 rfl (lv_at hl 0 rfl) ?_
  refine lv_dup hx hb dX10_opens_51 rfl ?_
  refine gf10 X G (hL 500 rfl) rfl 37 (by decide) rfl kf_X10_258 iwX10 dX10_opens_52 ?_
  refine lv_iconst (v := (1 : Int32)) hx hb dX10_opens_55 (by decide) ?_
  refine lv_iadd hx hb dX10_opens_56 ?_
  refine pf10 X G (hL 500 rfl) rfl 37 (by decide) ps10_37 uio kf_X10_258 iwX10 rfl (ty := .int) (by decide +kernel) rfl rfl dX10_opens_57 (fun s3 es3 H locs G => ?_)
  have hf := nm_s hf s3 es3
  exact rtWv X hlk G hr (so_i hf) dX10_opens_60
def fX10_opens_B30 (p1 : Int32) (st : St) : Option St := nm (ui st 500 35 ((st.1 500 35) + (1 : Int32))) (fun s1 => fX10_opens_B40 p1 s1)
set_option maxRecDepth 100000 in
theorem wX10_opens_B30 {p : Program} {l : Launch} {e : Env} {s : State} {m : MethodId} {args : Array Value} {below : List Frame} {meth : Method} {c : Code} {E : Ev} (hL : ∀ k, fxM k = true → k ∈ eL E) {p1 : Int32} {sz : Nat} {res : St} (X : CX p s m args c E RX10 cX10_opens 2 (Af E sz)) (hr : meth.sig.returnType = none) (hlk : meth.locks = false) : ∀  (st : St) (H : Heap) (locs : List Loc), fX10_opens_B30 p1   st = some res → Gd E st (Af E sz) s H locs → ∀ ls : Array Slot, lv_has ls 2 [(0, .ref (eq E 500)), (1, .int p1)] → W p l e (rmk 1) s m args below meth c H locs 0 0 (MQ below (QWv E res sz) args s 0 0 (Af E sz)) (F0 m 30 ls []) := by
  have hx := X.1.1
  have hb := X.1.2.1
  intro  st H locs hf G ls hl
  unfold fX10_opens_B30 at hf
  refine lv_aload_n hx hb dX10_opens_30 rfl (lv_at hl 0 rfl) ?_
  refine lv_dup hx hb dX10_opens_31 rfl ?_
  refine gf10 X G (hL 500 rfl) rfl 35 (by decide) rfl kf_X10_261 iwX10 dX10_opens_32 ?_
  refine lv_iconst (v := (1 : Int32)) hx hb dX10_opens_35 (by decide) ?_
  refine lv_iadd hx hb dX10_opens_36 ?_
  refine pf10 X G (hL 500 rfl) rfl 35 (by decide) ps10_35 uio kf_X10_261 iwX10 rfl (ty := .int) (by decide +kernel) rfl rfl dX10_opens_37 (fun s1 es1 H locs G => ?_)
  have hf := nm_s hf s1 es1
  exact wX10_opens_B40 hL X hr hlk s1 _ _ hf G _ (lv_sub hl [0, 1] rfl)
def fX10_opens_B12 (p1 : Int32) (st : St) : Option St := if (st.1 500 35) = (10 : Int32) then (br (fX10_fails (2 : Int32) (st.1 500 30) st) (fun s3 => fX10_opens_B30 p1 s3)) else (fX10_opens_B30 p1 st)
set_option maxRecDepth 100000 in
theorem wX10_opens_B12 {p : Program} {l : Launch} {e : Env} {s : State} {m : MethodId} {args : Array Value} {below : List Frame} {meth : Method} {c : Code} {E : Ev} (hL : ∀ k, fxM k = true → k ∈ eL E) {p1 : Int32} {sz : Nat} {res : St} (X : CX p s m args c E RX10 cX10_opens 2 (Af E sz)) (hr : meth.sig.returnType = none) (hlk : meth.locks = false) : ∀  (st : St) (H : Heap) (locs : List Loc), fX10_opens_B12 p1   st = some res → Gd E st (Af E sz) s H locs → ∀ ls : Array Slot, lv_has ls 2 [(0, .ref (eq E 500)), (1, .int p1)] → W p l e (rmk 1) s m args below meth c H locs 0 0 (MQ below (QWv E res sz) args s 0 0 (Af E sz)) (F0 m 12 ls []) := by
  have hx := X.1.1
  have hb := X.1.2.1
  intro  st H locs hf G ls hl
  unfold fX10_opens_B12 at hf
  refine lv_aload_n hx hb dX10_opens_12 rfl (lv_at hl 0 rfl) ?_
  refine gf10 X G (hL 500 rfl) rfl 35 (by decide) rfl kf_X10_261 iwX10 dX10_opens_13 ?_
  refine lv_bipush (v := (10 : Int32)) hx hb dX10_opens_16 (by decide) ?_
  refine lv_icmp_ne (tgt := 30) hx hb dX10_opens_18 (by decide) (fun c1 => ?_) (fun c1 => ?_)
  · have hf := it_f hf c1
    exact wX10_opens_B30 hL X hr hlk st _ _ hf G _ (lv_sub hl [0, 1] rfl)
  · have hf := it_t hf c1
    refine lv_aload_n hx hb dX10_opens_21 rfl (lv_at hl 0 rfl) ?_
    refine lv_iconst (v := (2 : Int32)) hx hb dX10_opens_22 (by decide) ?_
    refine lv_aload_n hx hb dX10_opens_23 rfl (lv_at hl 0 rfl) ?_
    refine gf10 X G (hL 500 rfl) rfl 30 (by decide) rfl kf_X10_190 iwX10 dX10_opens_24 ?_
    obtain ⟨s3, h2, hf⟩ := br_s hf
    refine cVWv (As := [.int (2 : Int32), .int (st.1 500 30)]) (rest := []) X G kc_X10_226 (tX10_fails l E st _ hL  (2 : Int32) (st.1 500 30) h2) (rcv X G (hL 500 rfl) (cO10 rfl) rfl) rfl rfl (rmk_le (by omega) (by decide)) rfl hl.1 rfl (Nat.le_of_ble_eq_true rfl) dX10_opens_27 ⟨Nat.zero_le _, Nat.zero_le _⟩ (fun H locs G => ?_)
    exact wX10_opens_B30 hL X hr hlk s3 _ _ hf G _ (lv_sub hl [0, 1] rfl)
def fX10_opens (p1 : Int32) (st : St) : Option St := if p1 = (9 : Int32) then (fX10_opens_B12 p1 st) else (if p1 = (12 : Int32) then (fX10_opens_B12 p1 st) else (fX10_opens_B40 p1 st))
set_option maxRecDepth 100000 in
theorem tX10_opens (l : Launch) (E : Ev) (st : St) (sz : Nat) (hL : ∀ k, fxM k = true → k ∈ eL E) (p1 : Int32) {res : St} (hf : fX10_opens  p1 st = some res) : Met l yX10_opens (.code yX10_opens cX10_opens 2 none :: uW) (rmk 1) (va_Pc [.ref (eq E 500), .int p1] (Pre E st sz)) (QWv E res sz) 0 0 (Af E sz) := by
  refine Met_in (by decide) (Nat.le_of_ble_eq_true rfl) ?_
  intro p e s m below meth c X hr hlk hz G ls hl
  have hx := X.1.1
  have hb := X.1.2.1
  have hl : lv_has ls 2 [(0, .ref (eq E 500)), (1, .int p1)] := hl
  unfold fX10_opens at hf
  refine lv_iload_n hx hb dX10_opens_0 rfl (lv_at hl 1 rfl) ?_
  refine lv_bipush (v := (9 : Int32)) hx hb dX10_opens_1 (by decide) ?_
  refine lv_icmp_eq (tgt := 12) hx hb dX10_opens_3 (by decide) (fun c1 => ?_) (fun c1 => ?_)
  · have hf := it_t hf c1
    exact wX10_opens_B12 hL X hr hlk st _ _ hf G _ (lv_sub hl [0, 1] rfl)
  · have hf := it_f hf c1
    refine lv_iload_n hx hb dX10_opens_6 rfl (lv_at hl 1 rfl) ?_
    refine lv_bipush (v := (12 : Int32)) hx hb dX10_opens_7 (by decide) ?_
    refine lv_icmp_ne (tgt := 40) hx hb dX10_opens_9 (by decide) (fun c2 => ?_) (fun c2 => ?_)
    · have hf := it_f hf c2
      exact wX10_opens_B40 hL X hr hlk st _ _ hf G _ (lv_sub hl [0, 1] rfl)
    · have hf := it_t hf c2
      exact wX10_opens_B12 hL X hr hlk st _ _ hf G _ (lv_sub hl [0, 1] rfl)
def fX10_answers_L0 (p1 : Int32) : Nat → St → Option St
  | 0, _ => none
  | n + 1, st => br (fX10_top st) (fun x2 => if x2 = p1 then (if (st.1 500 31) = 0 then (br (fX10_entry p1 (0 : Int32) st) (fun s6 => nm (ui s6 500 37 ((s6.1 500 37) - (1 : Int32))) (fun s7 => if p1 = (9 : Int32) then (nm (ui s7 500 35 ((s7.1 500 35) - (1 : Int32))) (fun s9 => (fX10_answers_L0 p1 n) s9)) else (nm (ui s7 500 35 ((s7.1 500 35) - (0 : Int32))) (fun s9 => (fX10_answers_L0 p1 n) s9))))) else (some st)) else (some st))
set_option maxRecDepth 100000 in
theorem wX10_answers_L0 {p : Program} {l : Launch} {e : Env} {s : State} {m : MethodId} {args : Array Value} {below : List Frame} {meth : Method} {c : Code} {E : Ev} (hL : ∀ k, fxM k = true → k ∈ eL E) {p1 : Int32} {sz : Nat} {res : St} (X : CX p s m args c E RX10 cX10_answers 2 (Af E sz)) (hr : meth.sig.returnType = none) (hlk : meth.locks = false) : ∀ (n : Nat)  (st : St) (H : Heap) (locs : List Loc), fX10_answers_L0 p1  n  st = some res → Gd E st (Af E sz) s H locs → ∀ ls : Array Slot, lv_has ls 2 [(0, .ref (eq E 500)), (1, .int p1)] → W p l e (rmk 1) s m args below meth c H locs 0 0 (MQ below (QWv E res sz) args s 0 0 (Af E sz)) (F0 m 0 ls []) := by
  have hx := X.1.1
  have hb := X.1.2.1
  intro n
  induction n with
  | zero =>
    intro  st H locs hf G ls hl
    cases (show (none : Option St) = some res from hf)
  | succ n ih =>
    intro  st H locs hf G ls hl
    rw [fX10_answers_L0] at hf
    refine lv_aload_n hx hb dX10_answers_0 rfl (lv_at hl 0 rfl) ?_
    obtain ⟨x2, h1, hf⟩ := br_s hf
    refine cVRi (As := []) (rest := []) X G kc_X10_264 (tX10_top l E st _ hL   h1) (rcv X G (hL 500 rfl) (cO10 rfl) rfl) rfl rfl (rmk_le (by omega) (by decide)) rfl hl.1 rfl (Nat.le_of_ble_eq_true rfl) dX10_answers_1 ⟨Nat.zero_le _, Nat.zero_le _⟩ ?_
    refine lv_iload_n hx hb dX10_answers_4 rfl (lv_at hl 1 rfl) ?_
    refine lv_icmp_ne (tgt := 54) hx hb dX10_answers_5 (by decide) (fun c3 => ?_) (fun c3 => ?_)
    · have hf := it_f hf c3
      exact rtWv X hlk G hr (so_i hf) dX10_answers_54
    · have hf := it_t hf c3
      refine lv_aload_n hx hb dX10_answers_8 rfl (lv_at hl 0 rfl) ?_
      refine gf10 X G (hL 500 rfl) rfl 31 (by decide) rfl kf_X10_187 iwX10 dX10_answers_9 ?_
      refine lv_if_ne (tgt := 54) hx hb dX10_answers_12 (by decide) (fun c4 => ?_) (fun c4 => ?_)
      · have hf := it_f hf c4
        exact rtWv X hlk G hr (so_i hf) dX10_answers_54
      · have hf := it_t hf c4
        refine lv_aload_n hx hb dX10_answers_15 rfl (lv_at hl 0 rfl) ?_
        refine lv_iload_n hx hb dX10_answers_16 rfl (lv_at hl 1 rfl) ?_
        refine lv_iconst (v := (0 : Int32)) hx hb dX10_answers_17 (by decide) ?_
        obtain ⟨s6, h5, hf⟩ := br_s hf
        refine cVWv (As := [.int p1, .int (0 : Int32)]) (rest := []) X G kc_X10_242 (tX10_entry l E st _ hL  p1 (0 : Int32) h5) (rcv X G (hL 500 rfl) (cO10 rfl) rfl) rfl rfl (rmk_le (by omega) (by decide)) rfl hl.1 rfl (Nat.le_of_ble_eq_true rfl) dX10_answers_18 ⟨Nat.zero_le _, Nat.zero_le _⟩ (fun H locs G => ?_)
        refine lv_aload_n hx hb dX10_answers_21 rfl (lv_at hl 0 rfl) ?_
        refine lv_dup hx hb dX10_answers_22 rfl ?_
        refine gf10 X G (hL 500 rfl) rfl 37 (by decide) rfl kf_X10_258 iwX10 dX10_answers_23 ?_
        refine lv_iconst (v := (1 : Int32)) hx hb dX10_answers_26 (by decide) ?_
        refine lv_isub hx hb dX10_answers_27 ?_
        refine pf10 X G (hL 500 rfl) rfl 37 (by decide) ps10_37 uio kf_X10_258 iwX10 rfl (ty := .int) (by decide +kernel) rfl rfl dX10_answers_28 (fun s7 es7 H locs G => ?_)
        have hf := nm_s hf s7 es7
        refine lv_aload_n hx hb dX10_answers_31 rfl (lv_at hl 0 rfl) ?_
        refine lv_dup hx hb dX10_answers_32 rfl ?_
        refine gf10 X G (hL 500 rfl) rfl 35 (by decide) rfl kf_X10_261 iwX10 dX10_answers_33 ?_
        refine lv_iload_n hx hb dX10_answers_36 rfl (lv_at hl 1 rfl) ?_
        refine lv_bipush (v := (9 : Int32)) hx hb dX10_answers_37 (by decide) ?_
        refine lv_icmp_ne (tgt := 46) hx hb dX10_answers_39 (by decide) (fun c8 => ?_) (fun c8 => ?_)
        · have hf := it_f hf c8
          refine lv_iconst (v := (0 : Int32)) hx hb dX10_answers_46 (by decide) ?_
          refine lv_isub hx hb dX10_answers_47 ?_
          refine pf10 X G (hL 500 rfl) rfl 35 (by decide) ps10_35 uio kf_X10_261 iwX10 rfl (ty := .int) (by decide +kernel) rfl rfl dX10_answers_48 (fun s9 es9 H locs G => ?_)
          have hf := nm_s hf s9 es9
          refine lv_goto (tgt := 0) hx hb dX10_answers_51 (by decide) ?_
          exact ih s9 _ _ hf G _ (lv_sub hl [0, 1] rfl)
        · have hf := it_t hf c8
          refine lv_iconst (v := (1 : Int32)) hx hb dX10_answers_42 (by decide) ?_
          refine lv_goto (tgt := 47) hx hb dX10_answers_43 (by decide) ?_
          refine lv_isub hx hb dX10_answers_47 ?_
          refine pf10 X G (hL 500 rfl) rfl 35 (by decide) ps10_35 uio kf_X10_261 iwX10 rfl (ty := .int) (by decide +kernel) rfl rfl dX10_answers_48 (fun s9 es9 H locs G => ?_)
          have hf := nm_s hf s9 es9
          refine lv_goto (tgt := 0) hx hb dX10_answers_51 (by decide) ?_
          exact ih s9 _ _ hf G _ (lv_sub hl [0, 1] rfl)
def fX10_answers (p1 : Int32) (st : St) : Option St := fX10_answers_L0 p1 10000 st
set_option maxRecDepth 100000 in
theorem tX10_answers (l : Launch) (E : Ev) (st : St) (sz : Nat) (hL : ∀ k, fxM k = true → k ∈ eL E) (p1 : Int32) {res : St} (hf : fX10_answers  p1 st = some res) : Met l yX10_answers (.code yX10_answers cX10_answers 2 none :: uW) (rmk 1) (va_Pc [.ref (eq E 500), .int p1] (Pre E st sz)) (QWv E res sz) 0 0 (Af E sz) := by
  refine Met_in (by decide) (Nat.le_of_ble_eq_true rfl) ?_
  intro p e s m below meth c X hr hlk hz G ls hl
  have hx := X.1.1
  have hb := X.1.2.1
  have hl : lv_has ls 2 [(0, .ref (eq E 500)), (1, .int p1)] := hl
  unfold fX10_answers at hf
  exact wX10_answers_L0 hL X hr hlk 10000 st _ _ hf G _ (lv_sub hl [0, 1] rfl)
def fX10_fact (st : St) : Option (Int32 × St) := br (fX10_blanks st) (fun s2 => br (fX10_stood 14 s2) (fun x4 => if x4 = 0 then (br (fX10_sign s2) (fun x7 => if x7 = (91 : Int32) then (br (fX10_opens (12 : Int32) s2) (fun s10 => nm (ui s10 500 30 ((s10.1 500 30) + (1 : Int32))) (fun s11 => some ((0 : Int32), s11)))) else (br (fX10_compared s2) (fun s10 => some ((1 : Int32), s10))))) else (br (fX10_opens (9 : Int32) s2) (fun s7 => nm (ui s7 500 30 ((s7.1 500 30) + (3 : Int32))) (fun s8 => some ((0 : Int32), s8))))))
set_option maxRecDepth 100000 in
theorem tX10_fact (l : Launch) (E : Ev) (st : St) (sz : Nat) (hL : ∀ k, fxM k = true → k ∈ eL E)  {res : (Int32 × St)} (hf : fX10_fact   st = some res) : Met l yX10_fact (.code yX10_fact cX10_fact 1 (some .boolean) :: uW) (rmk 9) (va_Pc [.ref (eq E 500)] (Pre E st sz)) (QWi E res.2 sz res.1) 0 0 (Af E sz) := by
  refine Met_in (by decide) (Nat.le_of_ble_eq_true rfl) ?_
  intro p e s m below meth c X hr hlk hz G ls hl
  have hx := X.1.1
  have hb := X.1.2.1
  have hl : lv_has ls 1 [(0, .ref (eq E 500))] := hl
  unfold fX10_fact at hf
  refine lv_aload_n hx hb dX10_fact_0 rfl (lv_at hl 0 rfl) ?_
  obtain ⟨s2, h1, hf⟩ := br_s hf
  refine cVWv (As := []) (rest := []) X G kc_X10_210 (tX10_blanks l E st _ hL   h1) (rcv X G (hL 500 rfl) (cO10 rfl) rfl) rfl rfl (rmk_le (by omega) (by decide)) rfl hl.1 rfl (Nat.le_of_ble_eq_true rfl) dX10_fact_1 ⟨Nat.zero_le _, Nat.zero_le _⟩ (fun H locs G => ?_)
  refine lv_aload_n hx hb dX10_fact_4 rfl (lv_at hl 0 rfl) ?_
  refine va_ldcwS hx hb X.1.2.2.2.1 (X.2.2.2.2 14 (by decide)) dX10_fact_5 ?_
  obtain ⟨x4, h3, hf⟩ := br_s hf
  refine cVRi (As := [.ref (eK E 14)]) (rest := []) X G kc_X10_213 (tX10_stood l E s2 _ hL (by decide)  h3) (rcv X G (hL 500 rfl) (cO10 rfl) rfl) rfl rfl (rmk_le (by omega) (by decide)) rfl hl.1 rfl (Nat.le_of_ble_eq_true rfl) dX10_fact_8 ⟨Nat.zero_le _, Nat.zero_le _⟩ ?_
  refine lv_if_eq (tgt := 32) hx hb dX10_fact_11 (by decide) (fun c5 => ?_) (fun c5 => ?_)
  · have hf := it_t hf c5
    refine lv_aload_n hx hb dX10_fact_32 rfl (lv_at hl 0 rfl) ?_
    obtain ⟨x7, h6, hf⟩ := br_s hf
    refine cVRi (As := []) (rest := []) X G kc_X10_193 (tX10_sign l E s2 _ hL   h6) (rcv X G (hL 500 rfl) (cO10 rfl) rfl) rfl rfl (rmk_le (by omega) (by decide)) rfl hl.1 rfl (Nat.le_of_ble_eq_true rfl) dX10_fact_33 ⟨Nat.zero_le _, Nat.zero_le _⟩ ?_
    refine lv_bipush (v := (91 : Int32)) hx hb dX10_fact_36 (by decide) ?_
    refine lv_icmp_ne (tgt := 59) hx hb dX10_fact_38 (by decide) (fun c8 => ?_) (fun c8 => ?_)
    · have hf := it_f hf c8
      refine lv_aload_n hx hb dX10_fact_59 rfl (lv_at hl 0 rfl) ?_
      obtain ⟨s10, h9, hf⟩ := br_s hf
      refine cVWv (As := []) (rest := []) X G kc_X10_272 (tX10_compared l E s2 _ hL   h9) (rcv X G (hL 500 rfl) (cO10 rfl) rfl) rfl rfl (rmk_le (by omega) (by decide)) rfl hl.1 rfl (Nat.le_of_ble_eq_true rfl) dX10_fact_60 ⟨Nat.zero_le _, Nat.zero_le _⟩ (fun H locs G => ?_)
      refine lv_iconst (v := (1 : Int32)) hx hb dX10_fact_63 (by decide) ?_
      exact rtWz X hlk G hr rfl (so_i hf) dX10_fact_64
    · have hf := it_t hf c8
      refine lv_aload_n hx hb dX10_fact_41 rfl (lv_at hl 0 rfl) ?_
      refine lv_bipush (v := (12 : Int32)) hx hb dX10_fact_42 (by decide) ?_
      obtain ⟨s10, h9, hf⟩ := br_s hf
      refine cVWv (As := [.int (12 : Int32)]) (rest := []) X G kc_X10_269 (tX10_opens l E s2 _ hL  (12 : Int32) h9) (rcv X G (hL 500 rfl) (cO10 rfl) rfl) rfl rfl (rmk_le (by omega) (by decide)) rfl hl.1 rfl (Nat.le_of_ble_eq_true rfl) dX10_fact_44 ⟨Nat.zero_le _, Nat.zero_le _⟩ (fun H locs G => ?_)
      refine lv_aload_n hx hb dX10_fact_47 rfl (lv_at hl 0 rfl) ?_
      refine lv_dup hx hb dX10_fact_48 rfl ?_
      refine gf10 X G (hL 500 rfl) rfl 30 (by decide) rfl kf_X10_190 iwX10 dX10_fact_49 ?_
      refine lv_iconst (v := (1 : Int32)) hx hb dX10_fact_52 (by decide) ?_
      refine lv_iadd hx hb dX10_fact_53 ?_
      refine pf10 X G (hL 500 rfl) rfl 30 (by decide) ps10_30 uio kf_X10_190 iwX10 rfl (ty := .int) (by decide +kernel) rfl rfl dX10_fact_54 (fun s11 es11 H locs G => ?_)
      have hf := nm_s hf s11 es11
      refine lv_iconst (v := (0 : Int32)) hx hb dX10_fact_57 (by decide) ?_
      exact rtWz X hlk G hr rfl (so_i hf) dX10_fact_58
  · have hf := it_f hf c5
    refine lv_aload_n hx hb dX10_fact_14 rfl (lv_at hl 0 rfl) ?_
    refine lv_bipush (v := (9 : Int32)) hx hb dX10_fact_15 (by decide) ?_
    obtain ⟨s7, h6, hf⟩ := br_s hf
    refine cVWv (As := [.int (9 : Int32)]) (rest := []) X G kc_X10_269 (tX10_opens l E s2 _ hL  (9 : Int32) h6) (rcv X G (hL 500 rfl) (cO10 rfl) rfl) rfl rfl (rmk_le (by omega) (by decide)) rfl hl.1 rfl (Nat.le_of_ble_eq_true rfl) dX10_fact_17 ⟨Nat.zero_le _, Nat.zero_le _⟩ (fun H locs G => ?_)
    refine lv_aload_n hx hb dX10_fact_20 rfl (lv_at hl 0 rfl) ?_
    refine lv_dup hx hb dX10_fact_21 rfl ?_
    refine gf10 X G (hL 500 rfl) rfl 30 (by decide) rfl kf_X10_190 iwX10 dX10_fact_22 ?_
    refine lv_iconst (v := (3 : Int32)) hx hb dX10_fact_25 (by decide) ?_
    refine lv_iadd hx hb dX10_fact_26 ?_
    refine pf10 X G (hL 500 rfl) rfl 30 (by decide) ps10_30 uio kf_X10_190 iwX10 rfl (ty := .int) (by decide +kernel) rfl rfl dX10_fact_27 (fun s8 es8 H locs G => ?_)
    have hf := nm_s hf s8 es8
    refine lv_iconst (v := (0 : Int32)) hx hb dX10_fact_30 (by decide) ?_
    exact rtWz X hlk G hr rfl (so_i hf) dX10_fact_31
def fX10_test_B122 (k9 : Int32 → Int32 → St → Option St) (y2 : Int32) (z0 : Int32) (z1 : Int32) (st : St) : Option St := nm (ui st 500 30 (z1 + z0)) (fun s1 => k9 (1 : Int32) y2 s1)
set_option maxRecDepth 100000 in
theorem wX10_test_B122 {p : Program} {l : Launch} {e : Env} {s : State} {m : MethodId} {args : Array Value} {below : List Frame} {meth : Method} {c : Code} {E : Ev} (hL : ∀ k, fxM k = true → k ∈ eL E) {sz : Nat} {res : St} (X : CX p s m args c E RX10 cX10_test 5 (Af E sz)) (hr : meth.sig.returnType = none) (hlk : meth.locks = false) {k9 : Int32 → Int32 → St → Option St} (hk9 : ∀ (y1 : Int32) (y2 : Int32) (st : St) (H : Heap) (locs : List Loc), k9 y1 y2 st = some res → Gd E st (Af E sz) s H locs → ∀ ls : Array Slot, lv_has ls 5 [(0, .ref (eq E 500)), (1, .int y1), (2, .int y2)] → W p l e (rmk 10) s m args below meth c H locs 0 0 (MQ below (QWv E res sz) args s 0 0 (Af E sz)) (F0 m 9 ls [])) : ∀ (y2 : Int32) (z0 : Int32) (z1 : Int32) (st : St) (H : Heap) (locs : List Loc), fX10_test_B122  k9 y2 z0 z1 st = some res → Gd E st (Af E sz) s H locs → ∀ ls : Array Slot, lv_has ls 5 [(0, .ref (eq E 500)), (2, .int y2)] → W p l e (rmk 10) s m args below meth c H locs 0 0 (MQ below (QWv E res sz) args s 0 0 (Af E sz)) (F0 m 122 ls [.int z0, .int z1, .ref (eq E 500)]) := by
  have hx := X.1.1
  have hb := X.1.2.1
  intro y2 z0 z1 st H locs hf G ls hl
  unfold fX10_test_B122 at hf
  refine lv_iadd hx hb dX10_test_122 ?_
  refine pf10 X G (hL 500 rfl) rfl 30 (by decide) ps10_30 uio kf_X10_190 iwX10 rfl (ty := .int) (by decide +kernel) rfl rfl dX10_test_123 (fun s1 es1 H locs G => ?_)
  have hf := nm_s hf s1 es1
  refine lv_iconst (v := (1 : Int32)) hx hb dX10_test_126 (by decide) ?_
  refine lv_istore_n (lv' := [(1, .int (1 : Int32)), (0, .ref (eq E 500)), (2, .int y2)]) hx hb dX10_test_127 rfl hl (by decide) rfl (fun ls hl => ?_)
  refine lv_goto (tgt := 199) hx hb dX10_test_128 (by decide) ?_
  refine lv_goto (tgt := 9) hx hb dX10_test_199 (by decide) ?_
  exact hk9 (1 : Int32) y2 s1 _ _ hf G _ (lv_sub hl [1, 0, 2] rfl)
def fX10_test_B105 (k9 : Int32 → Int32 → St → Option St) (y2 : Int32) (y3 : Int32) (z0 : Int32) (st : St) : Option St := br (fX10_opens z0 st) (fun s2 => if y3 = 0 then (fX10_test_B122 k9 y2 (2 : Int32) (s2.1 500 30) s2) else (fX10_test_B122 k9 y2 (3 : Int32) (s2.1 500 30) s2))
set_option maxRecDepth 100000 in
theorem wX10_test_B105 {p : Program} {l : Launch} {e : Env} {s : State} {m : MethodId} {args : Array Value} {below : List Frame} {meth : Method} {c : Code} {E : Ev} (hL : ∀ k, fxM k = true → k ∈ eL E) {sz : Nat} {res : St} (X : CX p s m args c E RX10 cX10_test 5 (Af E sz)) (hr : meth.sig.returnType = none) (hlk : meth.locks = false) {k9 : Int32 → Int32 → St → Option St} (hk9 : ∀ (y1 : Int32) (y2 : Int32) (st : St) (H : Heap) (locs : List Loc), k9 y1 y2 st = some res → Gd E st (Af E sz) s H locs → ∀ ls : Array Slot, lv_has ls 5 [(0, .ref (eq E 500)), (1, .int y1), (2, .int y2)] → W p l e (rmk 10) s m args below meth c H locs 0 0 (MQ below (QWv E res sz) args s 0 0 (Af E sz)) (F0 m 9 ls [])) : ∀ (y2 : Int32) (y3 : Int32) (z0 : Int32) (st : St) (H : Heap) (locs : List Loc), fX10_test_B105  k9 y2 y3 z0 st = some res → Gd E st (Af E sz) s H locs → ∀ ls : Array Slot, lv_has ls 5 [(0, .ref (eq E 500)), (2, .int y2), (3, .int y3)] → W p l e (rmk 10) s m args below meth c H locs 0 0 (MQ below (QWv E res sz) args s 0 0 (Af E sz)) (F0 m 105 ls [.int z0, .ref (eq E 500)]) := by
  have hx := X.1.1
  have hb := X.1.2.1
  intro y2 y3 z0 st H locs hf G ls hl
  unfold fX10_test_B105 at hf
  obtain ⟨s2, h1, hf⟩ := br_s hf
  refine cVWv (As := [.int z0]) (rest := []) X G kc_X10_269 (tX10_opens l E st _ hL  z0 h1) (rcv X G (hL 500 rfl) (cO10 rfl) rfl) rfl rfl (rmk_le (by omega) (by decide)) rfl hl.1 rfl (Nat.le_of_ble_eq_true rfl) dX10_test_105 ⟨Nat.zero_le _, Nat.zero_le _⟩ (fun H locs G => ?_)
  refine lv_aload_n hx hb dX10_test_108 rfl (lv_at hl 0 rfl) ?_
  refine lv_dup hx hb dX10_test_109 rfl ?_
  refine gf10 X G (hL 500 rfl) rfl 30 (by decide) rfl kf_X10_190 iwX10 dX10_test_110 ?_
  refine lv_iload_n hx hb dX10_test_113 rfl (lv_at hl 2 rfl) ?_
  refine lv_if_eq (tgt := 121) hx hb dX10_test_114 (by decide) (fun c3 => ?_) (fun c3 => ?_)
  · have hf := it_t hf c3
    refine lv_iconst (v := (2 : Int32)) hx hb dX10_test_121 (by decide) ?_
    exact wX10_test_B122 hL X hr hlk hk9 y2 (2 : Int32) (s2.1 500 30) s2 _ _ hf G _ (lv_sub hl [0, 1] rfl)
  · have hf := it_f hf c3
    refine lv_iconst (v := (3 : Int32)) hx hb dX10_test_117 (by decide) ?_
    refine lv_goto (tgt := 122) hx hb dX10_test_118 (by decide) ?_
    exact wX10_test_B122 hL X hr hlk hk9 y2 (3 : Int32) (s2.1 500 30) s2 _ _ hf G _ (lv_sub hl [0, 1] rfl)
def fX10_test_B93 (k9 : Int32 → Int32 → St → Option St) (y2 : Int32) (y3 : Int32) (st : St) : Option St := if y3 = 0 then (fX10_test_B105 k9 y2 y3 (11 : Int32) st) else (fX10_test_B105 k9 y2 y3 (10 : Int32) st)
set_option maxRecDepth 100000 in
theorem wX10_test_B93 {p : Program} {l : Launch} {e : Env} {s : State} {m : MethodId} {args : Array Value} {below : List Frame} {meth : Method} {c : Code} {E : Ev} (hL : ∀ k, fxM k = true → k ∈ eL E) {sz : Nat} {res : St} (X : CX p s m args c E RX10 cX10_test 5 (Af E sz)) (hr : meth.sig.returnType = none) (hlk : meth.locks = false) {k9 : Int32 → Int32 → St → Option St} (hk9 : ∀ (y1 : Int32) (y2 : Int32) (st : St) (H : Heap) (locs : List Loc), k9 y1 y2 st = some res → Gd E st (Af E sz) s H locs → ∀ ls : Array Slot, lv_has ls 5 [(0, .ref (eq E 500)), (1, .int y1), (2, .int y2)] → W p l e (rmk 10) s m args below meth c H locs 0 0 (MQ below (QWv E res sz) args s 0 0 (Af E sz)) (F0 m 9 ls [])) : ∀ (y2 : Int32) (y3 : Int32) (st : St) (H : Heap) (locs : List Loc), fX10_test_B93  k9 y2 y3 st = some res → Gd E st (Af E sz) s H locs → ∀ ls : Array Slot, lv_has ls 5 [(0, .ref (eq E 500)), (2, .int y2), (3, .int y3)] → W p l e (rmk 10) s m args below meth c H locs 0 0 (MQ below (QWv E res sz) args s 0 0 (Af E sz)) (F0 m 93 ls []) := by
  have hx := X.1.1
  have hb := X.1.2.1
  intro y2 y3 st H locs hf G ls hl
  unfold fX10_test_B93 at hf
  refine lv_aload_n hx hb dX10_test_93 rfl (lv_at hl 0 rfl) ?_
  refine lv_iload_n hx hb dX10_test_94 rfl (lv_at hl 2 rfl) ?_
  refine lv_if_eq (tgt := 103) hx hb dX10_test_95 (by decide) (fun c1 => ?_) (fun c1 => ?_)
  · have hf := it_t hf c1
    refine lv_bipush (v := (11 : Int32)) hx hb dX10_test_103 (by decide) ?_
    exact wX10_test_B105 hL X hr hlk hk9 y2 y3 (11 : Int32) st _ _ hf G _ (lv_sub hl [0, 1, 2] rfl)
  · have hf := it_f hf c1
    refine lv_bipush (v := (10 : Int32)) hx hb dX10_test_98 (by decide) ?_
    refine lv_goto (tgt := 105) hx hb dX10_test_100 (by decide) ?_
    exact wX10_test_B105 hL X hr hlk hk9 y2 y3 (10 : Int32) st _ _ hf G _ (lv_sub hl [0, 1, 2] rfl)
def fX10_test_B82 (k9 : Int32 → Int32 → St → Option St) (y2 : Int32) (y3 : Int32) (y4 : Int32) (st : St) : Option St := if y4 = 0 then (fX10_test_B93 k9 y2 y3 st) else (br (fX10_answers (11 : Int32) st) (fun s3 => fX10_test_B93 k9 y2 y3 s3))
set_option maxRecDepth 100000 in
theorem wX10_test_B82 {p : Program} {l : Launch} {e : Env} {s : State} {m : MethodId} {args : Array Value} {below : List Frame} {meth : Method} {c : Code} {E : Ev} (hL : ∀ k, fxM k = true → k ∈ eL E) {sz : Nat} {res : St} (X : CX p s m args c E RX10 cX10_test 5 (Af E sz)) (hr : meth.sig.returnType = none) (hlk : meth.locks = false) {k9 : Int32 → Int32 → St → Option St} (hk9 : ∀ (y1 : Int32) (y2 : Int32) (st : St) (H : Heap) (locs : List Loc), k9 y1 y2 st = some res → Gd E st (Af E sz) s H locs → ∀ ls : Array Slot, lv_has ls 5 [(0, .ref (eq E 500)), (1, .int y1), (2, .int y2)] → W p l e (rmk 10) s m args below meth c H locs 0 0 (MQ below (QWv E res sz) args s 0 0 (Af E sz)) (F0 m 9 ls [])) : ∀ (y2 : Int32) (y3 : Int32) (y4 : Int32) (st : St) (H : Heap) (locs : List Loc), fX10_test_B82  k9 y2 y3 y4 st = some res → Gd E st (Af E sz) s H locs → ∀ ls : Array Slot, lv_has ls 5 [(0, .ref (eq E 500)), (2, .int y2), (3, .int y3), (4, .int y4)] → W p l e (rmk 10) s m args below meth c H locs 0 0 (MQ below (QWv E res sz) args s 0 0 (Af E sz)) (F0 m 82 ls []) := by
  have hx := X.1.1
  have hb := X.1.2.1
  intro y2 y3 y4 st H locs hf G ls hl
  unfold fX10_test_B82 at hf
  refine lv_iload hx hb dX10_test_82 (lv_at hl 3 rfl) ?_
  refine lv_if_eq (tgt := 93) hx hb dX10_test_84 (by decide) (fun c1 => ?_) (fun c1 => ?_)
  · have hf := it_t hf c1
    exact wX10_test_B93 hL X hr hlk hk9 y2 y3 st _ _ hf G _ (lv_sub hl [0, 1, 2] rfl)
  · have hf := it_f hf c1
    refine lv_aload_n hx hb dX10_test_87 rfl (lv_at hl 0 rfl) ?_
    refine lv_bipush (v := (11 : Int32)) hx hb dX10_test_88 (by decide) ?_
    obtain ⟨s3, h2, hf⟩ := br_s hf
    refine cVWv (As := [.int (11 : Int32)]) (rest := []) X G kc_X10_278 (tX10_answers l E st _ hL  (11 : Int32) h2) (rcv X G (hL 500 rfl) (cO10 rfl) rfl) rfl rfl (rmk_le (by omega) (by decide)) rfl hl.1 rfl (Nat.le_of_ble_eq_true rfl) dX10_test_90 ⟨Nat.zero_le _, Nat.zero_le _⟩ (fun H locs G => ?_)
    exact wX10_test_B93 hL X hr hlk hk9 y2 y3 s3 _ _ hf G _ (lv_sub hl [0, 1, 2] rfl)
def fX10_test_B164 (k9 : Int32 → Int32 → St → Option St) (y1 : Int32) (y2 : Int32) (st : St) : Option St := nm (ui st 500 30 ((st.1 500 30) + (1 : Int32))) (fun s1 => nm (ui s1 500 37 ((s1.1 500 37) - (1 : Int32))) (fun s2 => nm (ui s2 500 35 ((s2.1 500 35) - (1 : Int32))) (fun s3 => k9 y1 y2 s3)))
set_option maxRecDepth 100000 in
theorem wX10_test_B164 {p : Program} {l : Launch} {e : Env} {s : State} {m : MethodId} {args : Array Value} {below : List Frame} {meth : Method} {c : Code} {E : Ev} (hL : ∀ k, fxM k = true → k ∈ eL E) {sz : Nat} {res : St} (X : CX p s m args c E RX10 cX10_test 5 (Af E sz)) (hr : meth.sig.returnType = none) (hlk : meth.locks = false) {k9 : Int32 → Int32 → St → Option St} (hk9 : ∀ (y1 : Int32) (y2 : Int32) (st : St) (H : Heap) (locs : List Loc), k9 y1 y2 st = some res → Gd E st (Af E sz) s H locs → ∀ ls : Array Slot, lv_has ls 5 [(0, .ref (eq E 500)), (1, .int y1), (2, .int y2)] → W p l e (rmk 10) s m args below meth c H locs 0 0 (MQ below (QWv E res sz) args s 0 0 (Af E sz)) (F0 m 9 ls [])) : ∀ (y1 : Int32) (y2 : Int32) (st : St) (H : Heap) (locs : List Loc), fX10_test_B164  k9 y1 y2 st = some res → Gd E st (Af E sz) s H locs → ∀ ls : Array Slot, lv_has ls 5 [(0, .ref (eq E 500)), (1, .int y1), (2, .int y2)] → W p l e (rmk 10) s m args below meth c H locs 0 0 (MQ below (QWv E res sz) args s 0 0 (Af E sz)) (F0 m 164 ls []) := by
  have hx := X.1.1
  have hb := X.1.2.1
  intro y1 y2 st H locs hf G ls hl
  unfold fX10_test_B164 at hf
  refine lv_aload_n hx hb dX10_test_164 rfl (lv_at hl 0 rfl) ?_
  refine lv_dup hx hb dX10_test_165 rfl ?_
  refine gf10 X G (hL 500 rfl) rfl 30 (by decide) rfl kf_X10_190 iwX10 dX10_test_166 ?_
  refine lv_iconst (v := (1 : Int32)) hx hb dX10_test_169 (by decide) ?_
  refine lv_iadd hx hb dX10_test_170 ?_
  refine pf10 X G (hL 500 rfl) rfl 30 (by decide) ps10_30 uio kf_X10_190 iwX10 rfl (ty := .int) (by decide +kernel) rfl rfl dX10_test_171 (fun s1 es1 H locs G => ?_)
  have hf := nm_s hf s1 es1
  refine lv_aload_n hx hb dX10_test_174 rfl (lv_at hl 0 rfl) ?_
  refine lv_dup hx hb dX10_test_175 rfl ?_
  refine gf10 X G (hL 500 rfl) rfl 37 (by decide) rfl kf_X10_258 iwX10 dX10_test_176 ?_
  refine lv_iconst (v := (1 : Int32)) hx hb dX10_test_179 (by decide) ?_
  refine lv_isub hx hb dX10_test_180 ?_
  refine pf10 X G (hL 500 rfl) rfl 37 (by decide) ps10_37 uio kf_X10_258 iwX10 rfl (ty := .int) (by decide +kernel) rfl rfl dX10_test_181 (fun s2 es2 H locs G => ?_)
  have hf := nm_s hf s2 es2
  refine lv_aload_n hx hb dX10_test_184 rfl (lv_at hl 0 rfl) ?_
  refine lv_dup hx hb dX10_test_185 rfl ?_
  refine gf10 X G (hL 500 rfl) rfl 35 (by decide) rfl kf_X10_261 iwX10 dX10_test_186 ?_
  refine lv_iconst (v := (1 : Int32)) hx hb dX10_test_189 (by decide) ?_
  refine lv_isub hx hb dX10_test_190 ?_
  refine pf10 X G (hL 500 rfl) rfl 35 (by decide) ps10_35 uio kf_X10_261 iwX10 rfl (ty := .int) (by decide +kernel) rfl rfl dX10_test_191 (fun s3 es3 H locs G => ?_)
  have hf := nm_s hf s3 es3
  refine lv_goto (tgt := 199) hx hb dX10_test_194 (by decide) ?_
  refine lv_goto (tgt := 9) hx hb dX10_test_199 (by decide) ?_
  exact hk9 y1 y2 s3 _ _ hf G _ (lv_sub hl [0, 1, 2] rfl)
def fX10_test_L9 : Nat → Int32 → Int32 → St → Option St
  | 0, _, _, _ => none
  | n + 1, y1, y2, st => if y2 = 0 then (some st) else (if (st.1 500 31) = 0 then (if y1 = 0 then (br (fX10_answers (9 : Int32) st) (fun s5 => br (fX10_blanks s5) (fun s7 => br (fX10_stood 15 s7) (fun x9 => br (fX10_stood 16 s7) (fun x11 => br (fX10_answers (10 : Int32) s7) (fun s13 => if x9 = 0 then (if x11 = 0 then (br (fX10_answers (11 : Int32) s13) (fun s17 => br (fX10_top s17) (fun x19 => if x19 = (12 : Int32) then (br (fX10_sign s17) (fun x22 => if x22 = (93 : Int32) then (fX10_test_B164 (fX10_test_L9 n) y1 y2 s17) else (br (fX10_fails (0 : Int32) (s17.1 500 30) s17) (fun s25 => fX10_test_B164 (fX10_test_L9 n) y1 y2 s25)))) else ((fX10_test_L9 n) y1 (0 : Int32) s17)))) else (fX10_test_B82 (fX10_test_L9 n) y2 x9 x11 s13)) else (fX10_test_B82 (fX10_test_L9 n) y2 x9 x11 s13))))))) else (bw (fX10_fact st) (fun x6 s5 => if x6 = 0 then ((fX10_test_L9 n) (1 : Int32) y2 s5) else ((fX10_test_L9 n) (0 : Int32) y2 s5)))) else (some st))
set_option maxRecDepth 100000 in
theorem wX10_test_L9 {p : Program} {l : Launch} {e : Env} {s : State} {m : MethodId} {args : Array Value} {below : List Frame} {meth : Method} {c : Code} {E : Ev} (hL : ∀ k, fxM k = true → k ∈ eL E) {sz : Nat} {res : St} (X : CX p s m args c E RX10 cX10_test 5 (Af E sz)) (hr : meth.sig.returnType = none) (hlk : meth.locks = false) : ∀ (n : Nat) (y1 : Int32) (y2 : Int32) (st : St) (H : Heap) (locs : List Loc), fX10_test_L9   n y1 y2 st = some res → Gd E st (Af E sz) s H locs → ∀ ls : Array Slot, lv_has ls 5 [(0, .ref (eq E 500)), (1, .int y1), (2, .int y2)] → W p l e (rmk 10) s m args below meth c H locs 0 0 (MQ below (QWv E res sz) args s 0 0 (Af E sz)) (F0 m 9 ls []) := by
  have hx := X.1.1
  have hb := X.1.2.1
  intro n
  induction n with
  | zero =>
    intro y1 y2 st H locs hf G ls hl
    cases (show (none : Option St) = some res from hf)
  | succ n ih =>
    intro y1 y2 st H locs hf G ls hl
    rw [fX10_test_L9] at hf
    refine lv_iload_n hx hb dX10_test_9 rfl (lv_at hl 2 rfl) ?_
    refine lv_if_eq (tgt := 202) hx hb dX10_test_10 (by decide) (fun c1 => ?_) (fun c1 => ?_)
    · have hf := it_t hf c1
      exact rtWv X hlk G hr (so_i hf) dX10_test_202
    · have hf := it_f hf c1
      refine lv_aload_n hx hb dX10_test_13 rfl (lv_at hl 0 rfl) ?_
      refine gf10 X G (hL 500 rfl) rfl 31 (by decide) rfl kf_X10_187 iwX10 dX10_test_14 ?_
      refine lv_if_ne (tgt := 202) hx hb dX10_test_17 (by decide) (fun c2 => ?_) (fun c2 => ?_)
      · have hf := it_f hf c2
        exact rtWv X hlk G hr (so_i hf) dX10_test_202
      · have hf := it_t hf c2
        refine lv_iload_n hx hb dX10_test_20 rfl (lv_at hl 1 rfl) ?_
        refine lv_if_eq (tgt := 40) hx hb dX10_test_21 (by decide) (fun c3 => ?_) (fun c3 => ?_)
        · have hf := it_t hf c3
          refine lv_aload_n hx hb dX10_test_40 rfl (lv_at hl 0 rfl) ?_
          refine lv_bipush (v := (9 : Int32)) hx hb dX10_test_41 (by decide) ?_
          obtain ⟨s5, h4, hf⟩ := br_s hf
          refine cVWv (As := [.int (9 : Int32)]) (rest := []) X G kc_X10_278 (tX10_answers l E st _ hL  (9 : Int32) h4) (rcv X G (hL 500 rfl) (cO10 rfl) rfl) rfl rfl (rmk_le (by omega) (by decide)) rfl hl.1 rfl (Nat.le_of_ble_eq_true rfl) dX10_test_43 ⟨Nat.zero_le _, Nat.zero_le _⟩ (fun H locs G => ?_)
          refine lv_aload_n hx hb dX10_test_46 rfl (lv_at hl 0 rfl) ?_
          obtain ⟨s7, h6, hf⟩ := br_s hf
          refine cVWv (As := []) (rest := []) X G kc_X10_210 (tX10_blanks l E s5 _ hL   h6) (rcv X G (hL 500 rfl) (cO10 rfl) rfl) rfl rfl (rmk_le (by omega) (by decide)) rfl hl.1 rfl (Nat.le_of_ble_eq_true rfl) dX10_test_47 ⟨Nat.zero_le _, Nat.zero_le _⟩ (fun H locs G => ?_)
          refine lv_aload_n hx hb dX10_test_50 rfl (lv_at hl 0 rfl) ?_
          refine va_ldcwS hx hb X.1.2.2.2.1 (X.2.2.2.2 15 (by decide)) dX10_test_51 ?_
          obtain ⟨x9, h8, hf⟩ := br_s hf
          refine cVRi (As := [.ref (eK E 15)]) (rest := []) X G kc_X10_213 (tX10_stood l E s7 _ hL (by decide)  h8) (rcv X G (hL 500 rfl) (cO10 rfl) rfl) rfl rfl (rmk_le (by omega) (by decide)) rfl hl.1 rfl (Nat.le_of_ble_eq_true rfl) dX10_test_54 ⟨Nat.zero_le _, Nat.zero_le _⟩ ?_
          refine lv_istore_n (lv' := [(3, .int x9), (0, .ref (eq E 500)), (1, .int y1), (2, .int y2)]) hx hb dX10_test_57 rfl hl (by decide) rfl (fun ls hl => ?_)
          refine lv_aload_n hx hb dX10_test_58 rfl (lv_at hl 1 rfl) ?_
          refine va_ldcwS hx hb X.1.2.2.2.1 (X.2.2.2.2 16 (by decide)) dX10_test_59 ?_
          obtain ⟨x11, h10, hf⟩ := br_s hf
          refine cVRi (As := [.ref (eK E 16)]) (rest := []) X G kc_X10_213 (tX10_stood l E s7 _ hL (by decide)  h10) (rcv X G (hL 500 rfl) (cO10 rfl) rfl) rfl rfl (rmk_le (by omega) (by decide)) rfl hl.1 rfl (Nat.le_of_ble_eq_true rfl) dX10_test_62 ⟨Nat.zero_le _, Nat.zero_le _⟩ ?_
          refine lv_istore (lv' := [(4, .int x11), (3, .int x9), (0, .ref (eq E 500)), (1, .int y1), (2, .int y2)]) hx hb dX10_test_65 hl (by decide) rfl (fun ls hl => ?_)
          refine lv_aload_n hx hb dX10_test_67 rfl (lv_at hl 2 rfl) ?_
          refine lv_bipush (v := (10 : Int32)) hx hb dX10_test_68 (by decide) ?_
          obtain ⟨s13, h12, hf⟩ := br_s hf
          refine cVWv (As := [.int (10 : Int32)]) (rest := []) X G kc_X10_278 (tX10_answers l E s7 _ hL  (10 : Int32) h12) (rcv X G (hL 500 rfl) (cO10 rfl) rfl) rfl rfl (rmk_le (by omega) (by decide)) rfl hl.1 rfl (Nat.le_of_ble_eq_true rfl) dX10_test_70 ⟨Nat.zero_le _, Nat.zero_le _⟩ (fun H locs G => ?_)
          refine lv_iload_n hx hb dX10_test_73 rfl (lv_at hl 1 rfl) ?_
          refine lv_if_ne (tgt := 82) hx hb dX10_test_74 (by decide) (fun c14 => ?_) (fun c14 => ?_)
          · have hf := it_f hf c14
            exact wX10_test_B82 hL X hr hlk ih y2 x9 x11 s13 _ _ hf G _ (lv_sub hl [2, 4, 1, 0] rfl)
          · have hf := it_t hf c14
            refine lv_iload hx hb dX10_test_77 (lv_at hl 0 rfl) ?_
            refine lv_if_eq (tgt := 131) hx hb dX10_test_79 (by decide) (fun c15 => ?_) (fun c15 => ?_)
            · have hf := it_t hf c15
              refine lv_aload_n hx hb dX10_test_131 rfl (lv_at hl 2 rfl) ?_
              refine lv_bipush (v := (11 : Int32)) hx hb dX10_test_132 (by decide) ?_
              obtain ⟨s17, h16, hf⟩ := br_s hf
              refine cVWv (As := [.int (11 : Int32)]) (rest := []) X G kc_X10_278 (tX10_answers l E s13 _ hL  (11 : Int32) h16) (rcv X G (hL 500 rfl) (cO10 rfl) rfl) rfl rfl (rmk_le (by omega) (by decide)) rfl hl.1 rfl (Nat.le_of_ble_eq_true rfl) dX10_test_134 ⟨Nat.zero_le _, Nat.zero_le _⟩ (fun H locs G => ?_)
              refine lv_aload_n hx hb dX10_test_137 rfl (lv_at hl 2 rfl) ?_
              obtain ⟨x19, h18, hf⟩ := br_s hf
              refine cVRi (As := []) (rest := []) X G kc_X10_264 (tX10_top l E s17 _ hL   h18) (rcv X G (hL 500 rfl) (cO10 rfl) rfl) rfl rfl (rmk_le (by omega) (by decide)) rfl hl.1 rfl (Nat.le_of_ble_eq_true rfl) dX10_test_138 ⟨Nat.zero_le _, Nat.zero_le _⟩ ?_
              refine lv_bipush (v := (12 : Int32)) hx hb dX10_test_141 (by decide) ?_
              refine lv_icmp_ne (tgt := 197) hx hb dX10_test_143 (by decide) (fun c20 => ?_) (fun c20 => ?_)
              · have hf := it_f hf c20
                refine lv_iconst (v := (0 : Int32)) hx hb dX10_test_197 (by decide) ?_
                refine lv_istore_n (lv' := [(2, .int (0 : Int32)), (4, .int x11), (3, .int x9), (0, .ref (eq E 500)), (1, .int y1)]) hx hb dX10_test_198 rfl hl (by decide) rfl (fun ls hl => ?_)
                refine lv_goto (tgt := 9) hx hb dX10_test_199 (by decide) ?_
                exact ih y1 (0 : Int32) s17 _ _ hf G _ (lv_sub hl [3, 4, 0] rfl)
              · have hf := it_t hf c20
                refine lv_aload_n hx hb dX10_test_146 rfl (lv_at hl 2 rfl) ?_
                obtain ⟨x22, h21, hf⟩ := br_s hf
                refine cVRi (As := []) (rest := []) X G kc_X10_193 (tX10_sign l E s17 _ hL   h21) (rcv X G (hL 500 rfl) (cO10 rfl) rfl) rfl rfl (rmk_le (by omega) (by decide)) rfl hl.1 rfl (Nat.le_of_ble_eq_true rfl) dX10_test_147 ⟨Nat.zero_le _, Nat.zero_le _⟩ ?_
                refine lv_bipush (v := (93 : Int32)) hx hb dX10_test_150 (by decide) ?_
                refine lv_icmp_eq (tgt := 164) hx hb dX10_test_152 (by decide) (fun c23 => ?_) (fun c23 => ?_)
                · have hf := it_t hf c23
                  exact wX10_test_B164 hL X hr hlk ih y1 y2 s17 _ _ hf G _ (lv_sub hl [2, 3, 4] rfl)
                · have hf := it_f hf c23
                  refine lv_aload_n hx hb dX10_test_155 rfl (lv_at hl 2 rfl) ?_
                  refine lv_iconst (v := (0 : Int32)) hx hb dX10_test_156 (by decide) ?_
                  refine lv_aload_n hx hb dX10_test_157 rfl (lv_at hl 2 rfl) ?_
                  refine gf10 X G (hL 500 rfl) rfl 30 (by decide) rfl kf_X10_190 iwX10 dX10_test_158 ?_
                  obtain ⟨s25, h24, hf⟩ := br_s hf
                  refine cVWv (As := [.int (0 : Int32), .int (s17.1 500 30)]) (rest := []) X G kc_X10_226 (tX10_fails l E s17 _ hL  (0 : Int32) (s17.1 500 30) h24) (rcv X G (hL 500 rfl) (cO10 rfl) rfl) rfl rfl (rmk_le (by omega) (by decide)) rfl hl.1 rfl (Nat.le_of_ble_eq_true rfl) dX10_test_161 ⟨Nat.zero_le _, Nat.zero_le _⟩ (fun H locs G => ?_)
                  exact wX10_test_B164 hL X hr hlk ih y1 y2 s25 _ _ hf G _ (lv_sub hl [2, 3, 4] rfl)
            · have hf := it_f hf c15
              exact wX10_test_B82 hL X hr hlk ih y2 x9 x11 s13 _ _ hf G _ (lv_sub hl [2, 4, 1, 0] rfl)
        · have hf := it_f hf c3
          refine lv_aload_n hx hb dX10_test_24 rfl (lv_at hl 0 rfl) ?_
          obtain ⟨x6, s5, h4, hf⟩ := bw_s hf
          refine cVWi (As := []) (rest := []) X G kc_X10_275 (tX10_fact l E st _ hL   h4) (rcv X G (hL 500 rfl) (cO10 rfl) rfl) rfl rfl (rmk_le (by omega) (by decide)) rfl hl.1 rfl (Nat.le_of_ble_eq_true rfl) dX10_test_25 ⟨Nat.zero_le _, Nat.zero_le _⟩ (fun H locs G => ?_)
          refine lv_if_ne (tgt := 35) hx hb dX10_test_28 (by decide) (fun c7 => ?_) (fun c7 => ?_)
          · have hf := it_f hf c7
            refine lv_iconst (v := (0 : Int32)) hx hb dX10_test_35 (by decide) ?_
            refine lv_istore_n (lv' := [(1, .int (0 : Int32)), (0, .ref (eq E 500)), (2, .int y2)]) hx hb dX10_test_36 rfl hl (by decide) rfl (fun ls hl => ?_)
            refine lv_goto (tgt := 9) hx hb dX10_test_37 (by decide) ?_
            exact ih (0 : Int32) y2 s5 _ _ hf G _ (lv_sub hl [1, 0, 2] rfl)
          · have hf := it_t hf c7
            refine lv_iconst (v := (1 : Int32)) hx hb dX10_test_31 (by decide) ?_
            refine lv_goto (tgt := 36) hx hb dX10_test_32 (by decide) ?_
            refine lv_istore_n (lv' := [(1, .int (1 : Int32)), (0, .ref (eq E 500)), (2, .int y2)]) hx hb dX10_test_36 rfl hl (by decide) rfl (fun ls hl => ?_)
            refine lv_goto (tgt := 9) hx hb dX10_test_37 (by decide) ?_
            exact ih (1 : Int32) y2 s5 _ _ hf G _ (lv_sub hl [1, 0, 2] rfl)
def fX10_test (st : St) : Option St := nm (ui st 500 37 (0 : Int32)) (fun s1 => fX10_test_L9 10000 (1 : Int32) (1 : Int32) s1)
set_option maxRecDepth 100000 in
theorem tX10_test (l : Launch) (E : Ev) (st : St) (sz : Nat) (hL : ∀ k, fxM k = true → k ∈ eL E)  {res : St} (hf : fX10_test   st = some res) : Met l yX10_test (.code yX10_test cX10_test 5 none :: uW) (rmk 10) (va_Pc [.ref (eq E 500)] (Pre E st sz)) (QWv E res sz) 0 0 (Af E sz) := by
  refine Met_in (by decide) (Nat.le_of_ble_eq_true rfl) ?_
  intro p e s m below meth c X hr hlk hz G ls hl
  have hx := X.1.1
  have hb := X.1.2.1
  have hl : lv_has ls 5 [(0, .ref (eq E 500))] := hl
  unfold fX10_test at hf
  refine lv_aload_n hx hb dX10_test_0 rfl (lv_at hl 0 rfl) ?_
  refine lv_iconst (v := (0 : Int32)) hx hb dX10_test_1 (by decide) ?_
  refine pf10 X G (hL 500 rfl) rfl 37 (by decide) ps10_37 uio kf_X10_258 iwX10 rfl (ty := .int) (by decide +kernel) rfl rfl dX10_test_2 (fun s1 es1 H locs G => ?_)
  have hf := nm_s hf s1 es1
  refine lv_iconst (v := (1 : Int32)) hx hb dX10_test_5 (by decide) ?_
  refine lv_istore_n (lv' := [(1, .int (1 : Int32)), (0, .ref (eq E 500))]) hx hb dX10_test_6 rfl hl (by decide) rfl (fun ls hl => ?_)
  refine lv_iconst (v := (1 : Int32)) hx hb dX10_test_7 (by decide) ?_
  refine lv_istore_n (lv' := [(2, .int (1 : Int32)), (1, .int (1 : Int32)), (0, .ref (eq E 500))]) hx hb dX10_test_8 rfl hl (by decide) rfl (fun ls hl => ?_)
  exact wX10_test_L9 hL X hr hlk 10000 (1 : Int32) (1 : Int32) s1 _ _ hf G _ (lv_sub hl [2, 1, 0] rfl)
def fX10_amount_B26 (p1 : Int32) (p2 : Int32) (y3 : Int32) (z0 : Int32) (st : St) : Option (Int32 × St) := if (st.1 500 31) = 0 then (br (fX10_in (Int32.toInt64 z0) (Int32.toInt64 p1) (Int32.toInt64 p2)) (fun x3 => if x3 = 0 then (br (fX10_fails (1 : Int32) y3 st) (fun s6 => some (z0, s6))) else (some (z0, st)))) else (some (z0, st))
set_option maxRecDepth 100000 in
theorem wX10_amount_B26 {p : Program} {l : Launch} {e : Env} {s : State} {m : MethodId} {args : Array Value} {below : List Frame} {meth : Method} {c : Code} {E : Ev} (hL : ∀ k, fxM k = true → k ∈ eL E) {p1 : Int32} {p2 : Int32} {sz : Nat} {res : (Int32 × St)} (X : CX p s m args c E RX10 cX10_amount 5 (Af E sz)) (hr : meth.sig.returnType = (some .int)) (hlk : meth.locks = false) : ∀ (y3 : Int32) (z0 : Int32) (st : St) (H : Heap) (locs : List Loc), fX10_amount_B26 p1 p2  y3 z0 st = some res → Gd E st (Af E sz) s H locs → ∀ ls : Array Slot, lv_has ls 5 [(0, .ref (eq E 500)), (1, .int p1), (2, .int p2), (3, .int y3)] → W p l e (rmk 3) s m args below meth c H locs 0 0 (MQ below (QWi E res.2 sz res.1) args s 0 0 (Af E sz)) (F0 m 26 ls [.int z0]) := by
  have hx := X.1.1
  have hb := X.1.2.1
  intro y3 z0 st H locs hf G ls hl
  unfold fX10_amount_B26 at hf
  refine lv_istore (lv' := [(4, .int z0), (0, .ref (eq E 500)), (1, .int p1), (2, .int p2), (3, .int y3)]) hx hb dX10_amount_26 hl (by decide) rfl (fun ls hl => ?_)
  refine lv_aload_n hx hb dX10_amount_28 rfl (lv_at hl 1 rfl) ?_
  refine gf10 X G (hL 500 rfl) rfl 31 (by decide) rfl kf_X10_187 iwX10 dX10_amount_29 ?_
  refine lv_if_ne (tgt := 54) hx hb dX10_amount_32 (by decide) (fun c1 => ?_) (fun c1 => ?_)
  · have hf := it_f hf c1
    refine lv_iload hx hb dX10_amount_54 (lv_at hl 0 rfl) ?_
    exact rtWi X hlk G hr (so_i hf) dX10_amount_56
  · have hf := it_t hf c1
    refine lv_iload hx hb dX10_amount_35 (lv_at hl 0 rfl) ?_
    refine lv_i2l hx hb dX10_amount_37 rfl ?_
    refine lv_iload_n hx hb dX10_amount_38 rfl (lv_at hl 2 rfl) ?_
    refine lv_i2l hx hb dX10_amount_39 rfl ?_
    refine lv_iload_n hx hb dX10_amount_40 rfl (lv_at hl 3 rfl) ?_
    refine lv_i2l hx hb dX10_amount_41 rfl ?_
    obtain ⟨x3, h2, hf⟩ := br_s hf
    refine cSRi (As := [.long (Int32.toInt64 z0), .long (Int32.toInt64 p1), .long (Int32.toInt64 p2)]) (rest := []) X G kc_X10_152 (tX10_in l E st _  (Int32.toInt64 z0) (Int32.toInt64 p1) (Int32.toInt64 p2) h2) rfl rfl (rmk_le (by omega) (by decide)) rfl hl.1 rfl (Nat.le_of_ble_eq_true rfl) dX10_amount_42 ⟨Nat.zero_le _, Nat.zero_le _⟩ ?_
    refine lv_if_ne (tgt := 54) hx hb dX10_amount_45 (by decide) (fun c4 => ?_) (fun c4 => ?_)
    · have hf := it_f hf c4
      refine lv_iload hx hb dX10_amount_54 (lv_at hl 0 rfl) ?_
      exact rtWi X hlk G hr (so_i hf) dX10_amount_56
    · have hf := it_t hf c4
      refine lv_aload_n hx hb dX10_amount_48 rfl (lv_at hl 1 rfl) ?_
      refine lv_iconst (v := (1 : Int32)) hx hb dX10_amount_49 (by decide) ?_
      refine lv_iload_n hx hb dX10_amount_50 rfl (lv_at hl 4 rfl) ?_
      obtain ⟨s6, h5, hf⟩ := br_s hf
      refine cVWv (As := [.int (1 : Int32), .int y3]) (rest := []) X G kc_X10_226 (tX10_fails l E st _ hL  (1 : Int32) y3 h5) (rcv X G (hL 500 rfl) (cO10 rfl) rfl) rfl rfl (rmk_le (by omega) (by decide)) rfl hl.1 rfl (Nat.le_of_ble_eq_true rfl) dX10_amount_51 ⟨Nat.zero_le _, Nat.zero_le _⟩ (fun H locs G => ?_)
      refine lv_iload hx hb dX10_amount_54 (lv_at hl 0 rfl) ?_
      exact rtWi X hlk G hr (so_i hf) dX10_amount_56
def fX10_amount (p1 : Int32) (p2 : Int32) (st : St) : Option (Int32 × St) := br (fX10_blanks st) (fun s2 => nm (s2.1 500 30) (fun x3 => if (s2.1 500 31) = 0 then (bw (fX10_digits (99999 : Int32) s2) (fun x7 s6 => fX10_amount_B26 p1 p2 x3 x7 s6)) else (fX10_amount_B26 p1 p2 x3 (0 : Int32) s2)))
set_option maxRecDepth 100000 in
theorem tX10_amount (l : Launch) (E : Ev) (st : St) (sz : Nat) (hL : ∀ k, fxM k = true → k ∈ eL E) (p1 : Int32) (p2 : Int32) {res : (Int32 × St)} (hf : fX10_amount  p1 p2 st = some res) : Met l yX10_amount (.code yX10_amount cX10_amount 5 (some .int) :: uW) (rmk 3) (va_Pc [.ref (eq E 500), .int p1, .int p2] (Pre E st sz)) (QWi E res.2 sz res.1) 0 0 (Af E sz) := by
  refine Met_in (by decide) (Nat.le_of_ble_eq_true rfl) ?_
  intro p e s m below meth c X hr hlk hz G ls hl
  have hx := X.1.1
  have hb := X.1.2.1
  have hl : lv_has ls 5 [(0, .ref (eq E 500)), (1, .int p1), (2, .int p2)] := hl
  unfold fX10_amount at hf
  refine lv_aload_n hx hb dX10_amount_0 rfl (lv_at hl 0 rfl) ?_
  obtain ⟨s2, h1, hf⟩ := br_s hf
  refine cVWv (As := []) (rest := []) X G kc_X10_210 (tX10_blanks l E st _ hL   h1) (rcv X G (hL 500 rfl) (cO10 rfl) rfl) rfl rfl (rmk_le (by omega) (by decide)) rfl hl.1 rfl (Nat.le_of_ble_eq_true rfl) dX10_amount_1 ⟨Nat.zero_le _, Nat.zero_le _⟩ (fun H locs G => ?_)
  refine lv_aload_n hx hb dX10_amount_4 rfl (lv_at hl 0 rfl) ?_
  refine gf10 X G (hL 500 rfl) rfl 30 (by decide) rfl kf_X10_190 iwX10 dX10_amount_5 ?_
  refine lv_topi (fun x3 ex3 => ?_)
  have hf := nm_s hf x3 ex3
  refine lv_istore_n (lv' := [(3, .int x3), (0, .ref (eq E 500)), (1, .int p1), (2, .int p2)]) hx hb dX10_amount_8 rfl hl (by decide) rfl (fun ls hl => ?_)
  refine lv_aload_n hx hb dX10_amount_9 rfl (lv_at hl 1 rfl) ?_
  refine gf10 X G (hL 500 rfl) rfl 31 (by decide) rfl kf_X10_187 iwX10 dX10_amount_10 ?_
  refine lv_if_ne (tgt := 25) hx hb dX10_amount_13 (by decide) (fun c4 => ?_) (fun c4 => ?_)
  · have hf := it_f hf c4
    refine lv_iconst (v := (0 : Int32)) hx hb dX10_amount_25 (by decide) ?_
    exact wX10_amount_B26 hL X hr hlk x3 (0 : Int32) s2 _ _ hf G _ (lv_sub hl [1, 2, 3, 0] rfl)
  · have hf := it_t hf c4
    refine lv_aload_n hx hb dX10_amount_16 rfl (lv_at hl 1 rfl) ?_
    refine lv_ldc (v := (99999 : Int32)) hx hb X.1.2.2.2.1 (X.1.2.2.2.2 _ kk_X10_234) dX10_amount_17 ?_
    obtain ⟨x7, s6, h5, hf⟩ := bw_s hf
    refine cVWi (As := [.int (99999 : Int32)]) (rest := []) X G kc_X10_235 (tX10_digits l E s2 _ hL  (99999 : Int32) h5) (rcv X G (hL 500 rfl) (cO10 rfl) rfl) rfl rfl (rmk_le (by omega) (by decide)) rfl hl.1 rfl (Nat.le_of_ble_eq_true rfl) dX10_amount_19 ⟨Nat.zero_le _, Nat.zero_le _⟩ (fun H locs G => ?_)
    refine lv_goto (tgt := 26) hx hb dX10_amount_22 (by decide) ?_
    exact wX10_amount_B26 hL X hr hlk x3 x7 s6 _ _ hf G _ (lv_sub hl [1, 2, 3, 0] rfl)
def fX10_duchyWord (p1 : Int32) : Option Nat := if p1 = (0 : Int32) then (some 17) else (if p1 = (1 : Int32) then (some 3) else (if p1 = (2 : Int32) then (some 18) else (if p1 = (3 : Int32) then (some 19) else (if p1 = (4 : Int32) then (some 2) else (some 20)))))
set_option maxRecDepth 100000 in
theorem tX10_duchyWord (l : Launch) (E : Ev) (st : St) (sz : Nat) (p1 : Int32) {res : Nat} (hf : fX10_duchyWord  p1 = some res) : Met l yX10_duchyWord (.code yX10_duchyWord cX10_duchyWord 1 (some (.object "java/lang/String")) :: uW) (rmk 0) (va_Pc [.int p1] (Pre E st sz)) (QRq (some (eK E res))) 0 0 (NoF) := by
  refine Met_in (by decide) (Nat.le_of_ble_eq_true rfl) ?_
  intro p e s m below meth c X hr hlk hz G ls hl
  have hx := X.1.1
  have hb := X.1.2.1
  have hl : lv_has ls 1 [(0, .int p1)] := hl
  unfold fX10_duchyWord at hf
  refine lv_iload_n hx hb dX10_duchyWord_0 rfl (lv_at hl 0 rfl) ?_
  by_cases cs0 : p1 = (0 : Int32)
  · have hf := it_t hf cs0
    refine tbl_in hx hb dX10_duchyWord_1 cs0 (by decide) (by decide) rfl (tgt := 36) (by decide) ?_
    refine va_ldcwS hx hb X.1.2.2.2.1 (X.2.2.2.2 17 (by decide)) dX10_duchyWord_36 ?_
    exact rtRq (q := some (eK E 17)) X hlk hr (Or.inl ⟨_, rfl⟩) (by rw [so_i hf]) dX10_duchyWord_39
  have hf := it_f hf cs0
  by_cases cs1 : p1 = (1 : Int32)
  · have hf := it_t hf cs1
    refine tbl_in hx hb dX10_duchyWord_1 cs1 (by decide) (by decide) rfl (tgt := 40) (by decide) ?_
    refine va_ldcS hx hb X.1.2.2.2.1 (X.2.2.2.2 3 (by decide)) dX10_duchyWord_40 ?_
    exact rtRq (q := some (eK E 3)) X hlk hr (Or.inl ⟨_, rfl⟩) (by rw [so_i hf]) dX10_duchyWord_42
  have hf := it_f hf cs1
  by_cases cs2 : p1 = (2 : Int32)
  · have hf := it_t hf cs2
    refine tbl_in hx hb dX10_duchyWord_1 cs2 (by decide) (by decide) rfl (tgt := 43) (by decide) ?_
    refine va_ldcwS hx hb X.1.2.2.2.1 (X.2.2.2.2 18 (by decide)) dX10_duchyWord_43 ?_
    exact rtRq (q := some (eK E 18)) X hlk hr (Or.inl ⟨_, rfl⟩) (by rw [so_i hf]) dX10_duchyWord_46
  have hf := it_f hf cs2
  by_cases cs3 : p1 = (3 : Int32)
  · have hf := it_t hf cs3
    refine tbl_in hx hb dX10_duchyWord_1 cs3 (by decide) (by decide) rfl (tgt := 47) (by decide) ?_
    refine va_ldcwS hx hb X.1.2.2.2.1 (X.2.2.2.2 19 (by decide)) dX10_duchyWord_47 ?_
    exact rtRq (q := some (eK E 19)) X hlk hr (Or.inl ⟨_, rfl⟩) (by rw [so_i hf]) dX10_duchyWord_50
  have hf := it_f hf cs3
  by_cases cs4 : p1 = (4 : Int32)
  · have hf := it_t hf cs4
    refine tbl_in hx hb dX10_duchyWord_1 cs4 (by decide) (by decide) rfl (tgt := 51) (by decide) ?_
    refine va_ldcS hx hb X.1.2.2.2.1 (X.2.2.2.2 2 (by decide)) dX10_duchyWord_51 ?_
    exact rtRq (q := some (eK E 2)) X hlk hr (Or.inl ⟨_, rfl⟩) (by rw [so_i hf]) dX10_duchyWord_53
  have hf := it_f hf cs4
  have kd : W p l e (rmk 0) s m [.int p1].toArray below meth c s.heap [] 0 0 (MQ below (QRq (some (eK E res))) [.int p1].toArray s 0 0 (NoF)) (F0 m 54 ls []) := by
    refine va_ldcwS hx hb X.1.2.2.2.1 (X.2.2.2.2 20 (by decide)) dX10_duchyWord_54 ?_
    exact rtRq (q := some (eK E 20)) X hlk hr (Or.inl ⟨_, rfl⟩) (by rw [so_i hf]) dX10_duchyWord_57
  refine lv_tableOut (tgt := 54) hx hb dX10_duchyWord_1 (sw_out (fun v h1 h2 => ?_)) (by decide) kd
  rcases (show v = 0 ∨ v = 1 ∨ v = 2 ∨ v = 3 ∨ v = 4 by omega) with rfl | rfl | rfl | rfl | rfl
  · exact cs0
  · exact cs1
  · exact cs2
  · exact cs3
  · exact cs4
def fX10_readsLane_B55 (y1 : Int32) (y3 : Int32) (st : St) : Option St := if (st.1 500 31) = 0 then (gd (ix y1 8) (br (fX10_has (st.1 525 y1.toNatClampNeg) y3) (fun x4 => if x4 = 0 then (gd (ix y1 8) (gd (ix y1 8) (nm (ui st 525 y1.toNatClampNeg ((st.1 525 y1.toNatClampNeg) ||| ((1 : Int32) <<< (y3 &&& 31)))) (fun s8 => gd (ix y3 8) (gd (ix y3 8) (nm (ui s8 525 y3.toNatClampNeg ((s8.1 525 y3.toNatClampNeg) ||| ((1 : Int32) <<< (y1 &&& 31)))) (fun s11 => nm (ui s11 520 4 ((s11.1 520 4) + (1 : Int32))) (fun s14 => some s14)))))))) else (some st)))) else (some st)
set_option maxRecDepth 100000 in
theorem wX10_readsLane_B55 {p : Program} {l : Launch} {e : Env} {s : State} {m : MethodId} {args : Array Value} {below : List Frame} {meth : Method} {c : Code} {E : Ev} (hL : ∀ k, fxM k = true → k ∈ eL E) {sz : Nat} {res : St} (X : CX p s m args c E RX10 cX10_readsLane 4 (Af E sz)) (hr : meth.sig.returnType = none) (hlk : meth.locks = false) : ∀ (y1 : Int32) (y3 : Int32) (st : St) (H : Heap) (locs : List Loc), fX10_readsLane_B55   y1 y3 st = some res → Gd E st (Af E sz) s H locs → ∀ ls : Array Slot, lv_has ls 4 [(0, .ref (eq E 500)), (1, .int y1), (3, .int y3)] → W p l e (rmk 4) s m args below meth c H locs 0 0 (MQ below (QWv E res sz) args s 0 0 (Af E sz)) (F0 m 55 ls []) := by
  have hx := X.1.1
  have hb := X.1.2.1
  intro y1 y3 st H locs hf G ls hl
  unfold fX10_readsLane_B55 at hf
  refine lv_aload_n hx hb dX10_readsLane_55 rfl (lv_at hl 0 rfl) ?_
  refine gf10 X G (hL 500 rfl) rfl 31 (by decide) rfl kf_X10_187 iwX10 dX10_readsLane_56 ?_
  refine lv_if_ne (tgt := 109) hx hb dX10_readsLane_59 (by decide) (fun c1 => ?_) (fun c1 => ?_)
  · have hf := it_f hf c1
    exact rtWv X hlk G hr (so_i hf) dX10_readsLane_109
  · have hf := it_t hf c1
    refine lv_aload_n hx hb dX10_readsLane_62 rfl (lv_at hl 0 rfl) ?_
    refine gf10 X G (hL 500 rfl) rfl 24 (by decide) rfl kf_X10_79 iwX10 dX10_readsLane_63 ?_
    refine lv_iload_n hx hb dX10_readsLane_66 rfl (lv_at hl 1 rfl) ?_
    obtain ⟨h2, hf⟩ := gd_s hf
    refine ia_ld (k := 525) (n := 8) X G (hL 525 rfl) rfl (by decide) (ix_in h2) dX10_readsLane_67 ?_
    refine lv_iload_n hx hb dX10_readsLane_68 rfl (lv_at hl 2 rfl) ?_
    obtain ⟨x4, h3, hf⟩ := br_s hf
    refine cSRi (As := [.int (st.1 525 y1.toNatClampNeg), .int y3]) (rest := []) X G kc_X10_156 (tX10_has l E st _  (st.1 525 y1.toNatClampNeg) y3 h3) rfl rfl (rmk_le (by omega) (by decide)) rfl hl.1 rfl (Nat.le_of_ble_eq_true rfl) dX10_readsLane_69 ⟨Nat.zero_le _, Nat.zero_le _⟩ ?_
    refine lv_if_ne (tgt := 109) hx hb dX10_readsLane_72 (by decide) (fun c5 => ?_) (fun c5 => ?_)
    · have hf := it_f hf c5
      exact rtWv X hlk G hr (so_i hf) dX10_readsLane_109
    · have hf := it_t hf c5
      refine lv_aload_n hx hb dX10_readsLane_75 rfl (lv_at hl 0 rfl) ?_
      refine gf10 X G (hL 500 rfl) rfl 24 (by decide) rfl kf_X10_79 iwX10 dX10_readsLane_76 ?_
      refine lv_iload_n hx hb dX10_readsLane_79 rfl (lv_at hl 1 rfl) ?_
      refine lv_dup2_11 hx hb dX10_readsLane_80 rfl rfl ?_
      obtain ⟨h6, hf⟩ := gd_s hf
      refine ia_ld (k := 525) (n := 8) X G (hL 525 rfl) rfl (by decide) (ix_in h6) dX10_readsLane_81 ?_
      refine lv_iconst (v := (1 : Int32)) hx hb dX10_readsLane_82 (by decide) ?_
      refine lv_iload_n hx hb dX10_readsLane_83 rfl (lv_at hl 2 rfl) ?_
      refine lv_ishl hx hb dX10_readsLane_84 ?_
      refine lv_ior hx hb dX10_readsLane_85 ?_
      obtain ⟨h7, hf⟩ := gd_s hf
      refine ia_st (k := 525) (n := 8) X G (hL 525 rfl) rfl (by decide) (ix_in h7) dX10_readsLane_86 (fun s8 es8 H locs G => ?_)
      have hf := nm_s hf s8 es8
      refine lv_aload_n hx hb dX10_readsLane_87 rfl (lv_at hl 0 rfl) ?_
      refine gf10 X G (hL 500 rfl) rfl 24 (by decide) rfl kf_X10_79 iwX10 dX10_readsLane_88 ?_
      refine lv_iload_n hx hb dX10_readsLane_91 rfl (lv_at hl 2 rfl) ?_
      refine lv_dup2_11 hx hb dX10_readsLane_92 rfl rfl ?_
      obtain ⟨h9, hf⟩ := gd_s hf
      refine ia_ld (k := 525) (n := 8) X G (hL 525 rfl) rfl (by decide) (ix_in h9) dX10_readsLane_93 ?_
      refine lv_iconst (v := (1 : Int32)) hx hb dX10_readsLane_94 (by decide) ?_
      refine lv_iload_n hx hb dX10_readsLane_95 rfl (lv_at hl 1 rfl) ?_
      refine lv_ishl hx hb dX10_readsLane_96 ?_
      refine lv_ior hx hb dX10_readsLane_97 ?_
      obtain ⟨h10, hf⟩ := gd_s hf
      refine ia_st (k := 525) (n := 8) X G (hL 525 rfl) rfl (by decide) (ix_in h10) dX10_readsLane_98 (fun s11 es11 H locs G => ?_)
      have hf := nm_s hf s11 es11
      refine lv_aload_n hx hb dX10_readsLane_99 rfl (lv_at hl 0 rfl) ?_
      refine gf10 X G (hL 500 rfl) rfl 19 (by decide) rfl kf_X10_64 iwX10 dX10_readsLane_100 ?_
      refine lv_iconst (v := (4 : Int32)) hx hb dX10_readsLane_103 (by decide) ?_
      refine lv_dup2_11 hx hb dX10_readsLane_104 rfl rfl ?_
      refine ia_ldc (k := 520) (n := 7) X G (hL 520 rfl) rfl (by decide) 4 (by decide) dX10_readsLane_105 ?_
      refine lv_iconst (v := (1 : Int32)) hx hb dX10_readsLane_106 (by decide) ?_
      refine lv_iadd hx hb dX10_readsLane_107 ?_
      refine ia_stc (k := 520) (n := 7) X G (hL 520 rfl) rfl (by decide) 4 (by decide) dX10_readsLane_108 (fun s14 es14 H locs G => ?_)
      have hf := nm_s hf s14 es14
      exact rtWv X hlk G hr (so_i hf) dX10_readsLane_109
def fX10_readsLane (st : St) : Option St := bw (fX10_amount (0 : Int32) ((st.1 520 3) - (1 : Int32)) st) (fun x4 s3 => br (fX10_blanks s3) (fun s6 => nm (s6.1 500 30) (fun x7 => bw (fX10_amount (0 : Int32) ((s6.1 520 3) - (1 : Int32)) s6) (fun x11 s10 => if (s10.1 500 31) = 0 then (if x4 = x11 then (br (fX10_fails (1 : Int32) x7 s10) (fun s15 => fX10_readsLane_B55 x4 x11 s15)) else (fX10_readsLane_B55 x4 x11 s10)) else (fX10_readsLane_B55 x4 x11 s10)))))
set_option maxRecDepth 100000 in
theorem tX10_readsLane (l : Launch) (E : Ev) (st : St) (sz : Nat) (hL : ∀ k, fxM k = true → k ∈ eL E)  {res : St} (hf : fX10_readsLane   st = some res) : Met l yX10_readsLane (.code yX10_readsLane cX10_readsLane 4 none :: uW) (rmk 4) (va_Pc [.ref (eq E 500)] (Pre E st sz)) (QWv E res sz) 0 0 (Af E sz) := by
  refine Met_in (by decide) (Nat.le_of_ble_eq_true rfl) ?_
  intro p e s m below meth c X hr hlk hz G ls hl
  have hx := X.1.1
  have hb := X.1.2.1
  have hl : lv_has ls 4 [(0, .ref (eq E 500))] := hl
  unfold fX10_readsLane at hf
  refine lv_aload_n hx hb dX10_readsLane_0 rfl (lv_at hl 0 rfl) ?_
  refine lv_iconst (v := (0 : Int32)) hx hb dX10_readsLane_1 (by decide) ?_
  refine lv_aload_n hx hb dX10_readsLane_2 rfl (lv_at hl 0 rfl) ?_
  refine gf10 X G (hL 500 rfl) rfl 19 (by decide) rfl kf_X10_64 iwX10 dX10_readsLane_3 ?_
  refine lv_iconst (v := (3 : Int32)) hx hb dX10_readsLane_6 (by decide) ?_
  refine ia_ldc (k := 520) (n := 7) X G (hL 520 rfl) rfl (by decide) 3 (by decide) dX10_readsLane_7 ?_
  refine lv_iconst (v := (1 : Int32)) hx hb dX10_readsLane_8 (by decide) ?_
  refine lv_isub hx hb dX10_readsLane_9 ?_
  obtain ⟨x4, s3, h2, hf⟩ := bw_s hf
  refine cVWi (As := [.int (0 : Int32), .int ((st.1 520 3) - (1 : Int32))]) (rest := []) X G kc_X10_292 (tX10_amount l E st _ hL  (0 : Int32) ((st.1 520 3) - (1 : Int32)) h2) (rcv X G (hL 500 rfl) (cO10 rfl) rfl) rfl rfl (rmk_le (by omega) (by decide)) rfl hl.1 rfl (Nat.le_of_ble_eq_true rfl) dX10_readsLane_10 ⟨Nat.zero_le _, Nat.zero_le _⟩ (fun H locs G => ?_)
  refine lv_istore_n (lv' := [(1, .int x4), (0, .ref (eq E 500))]) hx hb dX10_readsLane_13 rfl hl (by decide) rfl (fun ls hl => ?_)
  refine lv_aload_n hx hb dX10_readsLane_14 rfl (lv_at hl 1 rfl) ?_
  obtain ⟨s6, h5, hf⟩ := br_s hf
  refine cVWv (As := []) (rest := []) X G kc_X10_210 (tX10_blanks l E s3 _ hL   h5) (rcv X G (hL 500 rfl) (cO10 rfl) rfl) rfl rfl (rmk_le (by omega) (by decide)) rfl hl.1 rfl (Nat.le_of_ble_eq_true rfl) dX10_readsLane_15 ⟨Nat.zero_le _, Nat.zero_le _⟩ (fun H locs G => ?_)
  refine lv_aload_n hx hb dX10_readsLane_18 rfl (lv_at hl 1 rfl) ?_
  refine gf10 X G (hL 500 rfl) rfl 30 (by decide) rfl kf_X10_190 iwX10 dX10_readsLane_19 ?_
  refine lv_topi (fun x7 ex7 => ?_)
  have hf := nm_s hf x7 ex7
  refine lv_istore_n (lv' := [(2, .int x7), (1, .int x4), (0, .ref (eq E 500))]) hx hb dX10_readsLane_22 rfl hl (by decide) rfl (fun ls hl => ?_)
  refine lv_aload_n hx hb dX10_readsLane_23 rfl (lv_at hl 2 rfl) ?_
  refine lv_iconst (v := (0 : Int32)) hx hb dX10_readsLane_24 (by decide) ?_
  refine lv_aload_n hx hb dX10_readsLane_25 rfl (lv_at hl 2 rfl) ?_
  refine gf10 X G (hL 500 rfl) rfl 19 (by decide) rfl kf_X10_64 iwX10 dX10_readsLane_26 ?_
  refine lv_iconst (v := (3 : Int32)) hx hb dX10_readsLane_29 (by decide) ?_
  refine ia_ldc (k := 520) (n := 7) X G (hL 520 rfl) rfl (by decide) 3 (by decide) dX10_readsLane_30 ?_
  refine lv_iconst (v := (1 : Int32)) hx hb dX10_readsLane_31 (by decide) ?_
  refine lv_isub hx hb dX10_readsLane_32 ?_
  obtain ⟨x11, s10, h9, hf⟩ := bw_s hf
  refine cVWi (As := [.int (0 : Int32), .int ((s6.1 520 3) - (1 : Int32))]) (rest := []) X G kc_X10_292 (tX10_amount l E s6 _ hL  (0 : Int32) ((s6.1 520 3) - (1 : Int32)) h9) (rcv X G (hL 500 rfl) (cO10 rfl) rfl) rfl rfl (rmk_le (by omega) (by decide)) rfl hl.1 rfl (Nat.le_of_ble_eq_true rfl) dX10_readsLane_33 ⟨Nat.zero_le _, Nat.zero_le _⟩ (fun H locs G => ?_)
  refine lv_istore_n (lv' := [(3, .int x11), (2, .int x7), (1, .int x4), (0, .ref (eq E 500))]) hx hb dX10_readsLane_36 rfl hl (by decide) rfl (fun ls hl => ?_)
  refine lv_aload_n hx hb dX10_readsLane_37 rfl (lv_at hl 3 rfl) ?_
  refine gf10 X G (hL 500 rfl) rfl 31 (by decide) rfl kf_X10_187 iwX10 dX10_readsLane_38 ?_
  refine lv_if_ne (tgt := 55) hx hb dX10_readsLane_41 (by decide) (fun c12 => ?_) (fun c12 => ?_)
  · have hf := it_f hf c12
    exact wX10_readsLane_B55 hL X hr hlk x4 x11 s10 _ _ hf G _ (lv_sub hl [3, 2, 0] rfl)
  · have hf := it_t hf c12
    refine lv_iload_n hx hb dX10_readsLane_44 rfl (lv_at hl 2 rfl) ?_
    refine lv_iload_n hx hb dX10_readsLane_45 rfl (lv_at hl 0 rfl) ?_
    refine lv_icmp_ne (tgt := 55) hx hb dX10_readsLane_46 (by decide) (fun c13 => ?_) (fun c13 => ?_)
    · have hf := it_f hf c13
      exact wX10_readsLane_B55 hL X hr hlk x4 x11 s10 _ _ hf G _ (lv_sub hl [3, 2, 0] rfl)
    · have hf := it_t hf c13
      refine lv_aload_n hx hb dX10_readsLane_49 rfl (lv_at hl 3 rfl) ?_
      refine lv_iconst (v := (1 : Int32)) hx hb dX10_readsLane_50 (by decide) ?_
      refine lv_iload_n hx hb dX10_readsLane_51 rfl (lv_at hl 1 rfl) ?_
      obtain ⟨s15, h14, hf⟩ := br_s hf
      refine cVWv (As := [.int (1 : Int32), .int x7]) (rest := []) X G kc_X10_226 (tX10_fails l E s10 _ hL  (1 : Int32) x7 h14) (rcv X G (hL 500 rfl) (cO10 rfl) rfl) rfl rfl (rmk_le (by omega) (by decide)) rfl hl.1 rfl (Nat.le_of_ble_eq_true rfl) dX10_readsLane_52 ⟨Nat.zero_le _, Nat.zero_le _⟩ (fun H locs G => ?_)
      exact wX10_readsLane_B55 hL X hr hlk x4 x11 s15 _ _ hf G _ (lv_sub hl [3, 2, 0] rfl)
def fX10_readsHouse (st : St) : Option St := nm (st.1 520 3) (fun x2 => bw (fX10_amount (0 : Int32) (99 : Int32) st) (fun x5 s4 => gd (ix x2 8) (nm (ui s4 521 x2.toNatClampNeg x5) (fun s7 => bw (fX10_amount (0 : Int32) (99 : Int32) s7) (fun x10 s9 => gd (ix x2 8) (nm (ui s9 522 x2.toNatClampNeg x10) (fun s12 => bw (fX10_amount (0 : Int32) (20 : Int32) s12) (fun x15 s14 => gd (ix x2 8) (nm (ui s14 523 x2.toNatClampNeg x15) (fun s17 => gd (ix x2 8) (nm (ui s17 524 x2.toNatClampNeg (0 : Int32)) (fun s19 => gd (ix x2 8) (nm (ui s19 525 x2.toNatClampNeg (0 : Int32)) (fun s21 => nm (ui s21 520 3 ((s21.1 520 3) + (1 : Int32))) (fun s24 => some s24)))))))))))))))
set_option maxRecDepth 100000 in
theorem tX10_readsHouse (l : Launch) (E : Ev) (st : St) (sz : Nat) (hL : ∀ k, fxM k = true → k ∈ eL E)  {res : St} (hf : fX10_readsHouse   st = some res) : Met l yX10_readsHouse (.code yX10_readsHouse cX10_readsHouse 2 none :: uW) (rmk 4) (va_Pc [.ref (eq E 500)] (Pre E st sz)) (QWv E res sz) 0 0 (Af E sz) := by
  refine Met_in (by decide) (Nat.le_of_ble_eq_true rfl) ?_
  intro p e s m below meth c X hr hlk hz G ls hl
  have hx := X.1.1
  have hb := X.1.2.1
  have hl : lv_has ls 2 [(0, .ref (eq E 500))] := hl
  unfold fX10_readsHouse at hf
  refine lv_aload_n hx hb dX10_readsHouse_0 rfl (lv_at hl 0 rfl) ?_
  refine gf10 X G (hL 500 rfl) rfl 19 (by decide) rfl kf_X10_64 iwX10 dX10_readsHouse_1 ?_
  refine lv_iconst (v := (3 : Int32)) hx hb dX10_readsHouse_4 (by decide) ?_
  refine ia_ldc (k := 520) (n := 7) X G (hL 520 rfl) rfl (by decide) 3 (by decide) dX10_readsHouse_5 ?_
  refine lv_topi (fun x2 ex2 => ?_)
  have hf := nm_s hf x2 ex2
  refine lv_istore_n (lv' := [(1, .int x2), (0, .ref (eq E 500))]) hx hb dX10_readsHouse_6 rfl hl (by decide) rfl (fun ls hl => ?_)
  refine lv_aload_n hx hb dX10_readsHouse_7 rfl (lv_at hl 1 rfl) ?_
  refine gf10 X G (hL 500 rfl) rfl 20 (by decide) rfl kf_X10_67 iwX10 dX10_readsHouse_8 ?_
  refine lv_iload_n hx hb dX10_readsHouse_11 rfl (lv_at hl 0 rfl) ?_
  refine lv_aload_n hx hb dX10_readsHouse_12 rfl (lv_at hl 1 rfl) ?_
  refine lv_iconst (v := (0 : Int32)) hx hb dX10_readsHouse_13 (by decide) ?_
  refine lv_bipush (v := (99 : Int32)) hx hb dX10_readsHouse_14 (by decide) ?_
  obtain ⟨x5, s4, h3, hf⟩ := bw_s hf
  refine cVWi (As := [.int (0 : Int32), .int (99 : Int32)]) (rest := [.int x2, .ref (eq E 521)]) X G kc_X10_292 (tX10_amount l E st _ hL  (0 : Int32) (99 : Int32) h3) (rcv X G (hL 500 rfl) (cO10 rfl) rfl) rfl rfl (rmk_le (by omega) (by decide)) rfl hl.1 rfl (Nat.le_of_ble_eq_true rfl) dX10_readsHouse_16 ⟨Nat.zero_le _, Nat.zero_le _⟩ (fun H locs G => ?_)
  obtain ⟨h6, hf⟩ := gd_s hf
  refine ia_st (k := 521) (n := 8) X G (hL 521 rfl) rfl (by decide) (ix_in h6) dX10_readsHouse_19 (fun s7 es7 H locs G => ?_)
  have hf := nm_s hf s7 es7
  refine lv_aload_n hx hb dX10_readsHouse_20 rfl (lv_at hl 1 rfl) ?_
  refine gf10 X G (hL 500 rfl) rfl 21 (by decide) rfl kf_X10_70 iwX10 dX10_readsHouse_21 ?_
  refine lv_iload_n hx hb dX10_readsHouse_24 rfl (lv_at hl 0 rfl) ?_
  refine lv_aload_n hx hb dX10_readsHouse_25 rfl (lv_at hl 1 rfl) ?_
  refine lv_iconst (v := (0 : Int32)) hx hb dX10_readsHouse_26 (by decide) ?_
  refine lv_bipush (v := (99 : Int32)) hx hb dX10_readsHouse_27 (by decide) ?_
  obtain ⟨x10, s9, h8, hf⟩ := bw_s hf
  refine cVWi (As := [.int (0 : Int32), .int (99 : Int32)]) (rest := [.int x2, .ref (eq E 522)]) X G kc_X10_292 (tX10_amount l E s7 _ hL  (0 : Int32) (99 : Int32) h8) (rcv X G (hL 500 rfl) (cO10 rfl) rfl) rfl rfl (rmk_le (by omega) (by decide)) rfl hl.1 rfl (Nat.le_of_ble_eq_true rfl) dX10_readsHouse_29 ⟨Nat.zero_le _, Nat.zero_le _⟩ (fun H locs G => ?_)
  obtain ⟨h11, hf⟩ := gd_s hf
  refine ia_st (k := 522) (n := 8) X G (hL 522 rfl) rfl (by decide) (ix_in h11) dX10_readsHouse_32 (fun s12 es12 H locs G => ?_)
  have hf := nm_s hf s12 es12
  refine lv_aload_n hx hb dX10_readsHouse_33 rfl (lv_at hl 1 rfl) ?_
  refine gf10 X G (hL 500 rfl) rfl 22 (by decide) rfl kf_X10_73 iwX10 dX10_readsHouse_34 ?_
  refine lv_iload_n hx hb dX10_readsHouse_37 rfl (lv_at hl 0 rfl) ?_
  refine lv_aload_n hx hb dX10_readsHouse_38 rfl (lv_at hl 1 rfl) ?_
  refine lv_iconst (v := (0 : Int32)) hx hb dX10_readsHouse_39 (by decide) ?_
  refine lv_bipush (v := (20 : Int32)) hx hb dX10_readsHouse_40 (by decide) ?_
  obtain ⟨x15, s14, h13, hf⟩ := bw_s hf
  refine cVWi (As := [.int (0 : Int32), .int (20 : Int32)]) (rest := [.int x2, .ref (eq E 523)]) X G kc_X10_292 (tX10_amount l E s12 _ hL  (0 : Int32) (20 : Int32) h13) (rcv X G (hL 500 rfl) (cO10 rfl) rfl) rfl rfl (rmk_le (by omega) (by decide)) rfl hl.1 rfl (Nat.le_of_ble_eq_true rfl) dX10_readsHouse_42 ⟨Nat.zero_le _, Nat.zero_le _⟩ (fun H locs G => ?_)
  obtain ⟨h16, hf⟩ := gd_s hf
  refine ia_st (k := 523) (n := 8) X G (hL 523 rfl) rfl (by decide) (ix_in h16) dX10_readsHouse_45 (fun s17 es17 H locs G => ?_)
  have hf := nm_s hf s17 es17
  refine lv_aload_n hx hb dX10_readsHouse_46 rfl (lv_at hl 1 rfl) ?_
  refine gf10 X G (hL 500 rfl) rfl 23 (by decide) rfl kf_X10_76 iwX10 dX10_readsHouse_47 ?_
  refine lv_iload_n hx hb dX10_readsHouse_50 rfl (lv_at hl 0 rfl) ?_
  refine lv_iconst (v := (0 : Int32)) hx hb dX10_readsHouse_51 (by decide) ?_
  obtain ⟨h18, hf⟩ := gd_s hf
  refine ia_st (k := 524) (n := 8) X G (hL 524 rfl) rfl (by decide) (ix_in h18) dX10_readsHouse_52 (fun s19 es19 H locs G => ?_)
  have hf := nm_s hf s19 es19
  refine lv_aload_n hx hb dX10_readsHouse_53 rfl (lv_at hl 1 rfl) ?_
  refine gf10 X G (hL 500 rfl) rfl 24 (by decide) rfl kf_X10_79 iwX10 dX10_readsHouse_54 ?_
  refine lv_iload_n hx hb dX10_readsHouse_57 rfl (lv_at hl 0 rfl) ?_
  refine lv_iconst (v := (0 : Int32)) hx hb dX10_readsHouse_58 (by decide) ?_
  obtain ⟨h20, hf⟩ := gd_s hf
  refine ia_st (k := 525) (n := 8) X G (hL 525 rfl) rfl (by decide) (ix_in h20) dX10_readsHouse_59 (fun s21 es21 H locs G => ?_)
  have hf := nm_s hf s21 es21
  refine lv_aload_n hx hb dX10_readsHouse_60 rfl (lv_at hl 1 rfl) ?_
  refine gf10 X G (hL 500 rfl) rfl 19 (by decide) rfl kf_X10_64 iwX10 dX10_readsHouse_61 ?_
  refine lv_iconst (v := (3 : Int32)) hx hb dX10_readsHouse_64 (by decide) ?_
  refine lv_dup2_11 hx hb dX10_readsHouse_65 rfl rfl ?_
  refine ia_ldc (k := 520) (n := 7) X G (hL 520 rfl) rfl (by decide) 3 (by decide) dX10_readsHouse_66 ?_
  refine lv_iconst (v := (1 : Int32)) hx hb dX10_readsHouse_67 (by decide) ?_
  refine lv_iadd hx hb dX10_readsHouse_68 ?_
  refine ia_stc (k := 520) (n := 7) X G (hL 520 rfl) rfl (by decide) 3 (by decide) dX10_readsHouse_69 (fun s24 es24 H locs G => ?_)
  have hf := nm_s hf s24 es24
  exact rtWv X hlk G hr (so_i hf) dX10_readsHouse_70
def fX10_duchyPart_B206 (p1 : Int32) (st : St) : Option St := nm (ui st 520 6 ((st.1 520 6) + (1 : Int32))) (fun s3 => some s3)
set_option maxRecDepth 100000 in
theorem wX10_duchyPart_B206 {p : Program} {l : Launch} {e : Env} {s : State} {m : MethodId} {args : Array Value} {below : List Frame} {meth : Method} {c : Code} {E : Ev} (hL : ∀ k, fxM k = true → k ∈ eL E) {p1 : Int32} {sz : Nat} {res : St} (X : CX p s m args c E RX10 cX10_duchyPart 4 (Af E sz)) (hr : meth.sig.returnType = none) (hlk : meth.locks = false) : ∀  (st : St) (H : Heap) (locs : List Loc), fX10_duchyPart_B206 p1   st = some res → Gd E st (Af E sz) s H locs → ∀ ls : Array Slot, lv_has ls 4 [(0, .ref (eq E 500))] → W p l e (rmk 5) s m args below meth c H locs 0 0 (MQ below (QWv E res sz) args s 0 0 (Af E sz)) (F0 m 206 ls []) := by
  have hx := X.1.1
  have hb := X.1.2.1
  intro  st H locs hf G ls hl
  unfold fX10_duchyPart_B206 at hf
  refine lv_aload_n hx hb dX10_duchyPart_206 rfl (lv_at hl 0 rfl) ?_
  refine gf10 X G (hL 500 rfl) rfl 19 (by decide) rfl kf_X10_64 iwX10 dX10_duchyPart_207 ?_
  refine lv_bipush (v := (6 : Int32)) hx hb dX10_duchyPart_210 (by decide) ?_
  refine lv_dup2_11 hx hb dX10_duchyPart_212 rfl rfl ?_
  refine ia_ldc (k := 520) (n := 7) X G (hL 520 rfl) rfl (by decide) 6 (by decide) dX10_duchyPart_213 ?_
  refine lv_iconst (v := (1 : Int32)) hx hb dX10_duchyPart_214 (by decide) ?_
  refine lv_iadd hx hb dX10_duchyPart_215 ?_
  refine ia_stc (k := 520) (n := 7) X G (hL 520 rfl) rfl (by decide) 6 (by decide) dX10_duchyPart_216 (fun s3 es3 H locs G => ?_)
  have hf := nm_s hf s3 es3
  exact rtWv X hlk G hr (so_i hf) dX10_duchyPart_217
def fX10_duchyPart (p1 : Int32) (st : St) : Option St := if p1 = (0 : Int32) then (bw (fX10_amount (0 : Int32) (100 : Int32) st) (fun x3 s2 => nm (ui s2 520 0 x3) (fun s5 => bw (fX10_amount (0 : Int32) (20 : Int32) s5) (fun x8 s7 => nm (ui s7 520 1 x8) (fun s10 => bw (fX10_amount (0 : Int32) (50 : Int32) s10) (fun x13 s12 => nm (ui s12 520 2 x13) (fun s15 => some s15))))))) else (if p1 = (1 : Int32) then (br (fX10_readsHouse st) (fun s2 => some s2)) else (if p1 = (2 : Int32) then (br (fX10_readsLane st) (fun s2 => some s2)) else (if p1 = (3 : Int32) then (bw (fX10_amount (0 : Int32) ((st.1 520 3) - (1 : Int32)) st) (fun x4 s3 => bw (fX10_amount (0 : Int32) (50 : Int32) s3) (fun x7 s6 => if (s6.1 500 31) = 0 then (gd (ix x4 8) (nm (ui s6 524 x4.toNatClampNeg x7) (fun s10 => some s10))) else (some s6)))) else (if p1 = (4 : Int32) then (nm (st.1 520 5) (fun x2 => bw (fX10_amount (0 : Int32) ((st.1 520 3) - (1 : Int32)) st) (fun x6 s5 => gd (ix x2 3) (nm (ui s5 526 x2.toNatClampNeg x6) (fun s8 => bw (fX10_amount (1 : Int32) (200 : Int32) s8) (fun x11 s10 => gd (ix x2 3) (nm (ui s10 527 x2.toNatClampNeg x11) (fun s13 => nm (ui s13 520 5 ((s13.1 520 5) + (1 : Int32))) (fun s16 => some s16))))))))) else (bw (fX10_amount (0 : Int32) (99 : Int32) st) (fun x3 s2 => if (s2.1 500 31) = 0 then (gd (ix x3 100) (nm (ui s2 528 x3.toNatClampNeg (1 : Int32)) (fun s6 => fX10_duchyPart_B206 p1 s6))) else (fX10_duchyPart_B206 p1 s2)))))))
set_option maxRecDepth 100000 in
theorem tX10_duchyPart (l : Launch) (E : Ev) (st : St) (sz : Nat) (hL : ∀ k, fxM k = true → k ∈ eL E) (p1 : Int32) {res : St} (hf : fX10_duchyPart  p1 st = some res) : Met l yX10_duchyPart (.code yX10_duchyPart cX10_duchyPart 4 none :: uW) (rmk 5) (va_Pc [.ref (eq E 500), .int p1] (Pre E st sz)) (QWv E res sz) 0 0 (Af E sz) := by
  refine Met_in (by decide) (Nat.le_of_ble_eq_true rfl) ?_
  intro p e s m below meth c X hr hlk hz G ls hl
  have hx := X.1.1
  have hb := X.1.2.1
  have hl : lv_has ls 4 [(0, .ref (eq E 500)), (1, .int p1)] := hl
  unfold fX10_duchyPart at hf
  refine lv_iload_n hx hb dX10_duchyPart_0 rfl (lv_at hl 1 rfl) ?_
  by_cases cs0 : p1 = (0 : Int32)
  · have hf := it_t hf cs0
    refine tbl_in hx hb dX10_duchyPart_1 cs0 (by decide) (by decide) rfl (tgt := 36) (by decide) ?_
    refine lv_aload_n hx hb dX10_duchyPart_36 rfl (lv_at hl 0 rfl) ?_
    refine gf10 X G (hL 500 rfl) rfl 19 (by decide) rfl kf_X10_64 iwX10 dX10_duchyPart_37 ?_
    refine lv_iconst (v := (0 : Int32)) hx hb dX10_duchyPart_40 (by decide) ?_
    refine lv_aload_n hx hb dX10_duchyPart_41 rfl (lv_at hl 0 rfl) ?_
    refine lv_iconst (v := (0 : Int32)) hx hb dX10_duchyPart_42 (by decide) ?_
    refine lv_bipush (v := (100 : Int32)) hx hb dX10_duchyPart_43 (by decide) ?_
    obtain ⟨x3, s2, h1, hf⟩ := bw_s hf
    refine cVWi (As := [.int (0 : Int32), .int (100 : Int32)]) (rest := [.int (0 : Int32), .ref (eq E 520)]) X G kc_X10_292 (tX10_amount l E st _ hL  (0 : Int32) (100 : Int32) h1) (rcv X G (hL 500 rfl) (cO10 rfl) rfl) rfl rfl (rmk_le (by omega) (by decide)) rfl hl.1 rfl (Nat.le_of_ble_eq_true rfl) dX10_duchyPart_45 ⟨Nat.zero_le _, Nat.zero_le _⟩ (fun H locs G => ?_)
    refine ia_stc (k := 520) (n := 7) X G (hL 520 rfl) rfl (by decide) 0 (by decide) dX10_duchyPart_48 (fun s5 es5 H locs G => ?_)
    have hf := nm_s hf s5 es5
    refine lv_aload_n hx hb dX10_duchyPart_49 rfl (lv_at hl 0 rfl) ?_
    refine gf10 X G (hL 500 rfl) rfl 19 (by decide) rfl kf_X10_64 iwX10 dX10_duchyPart_50 ?_
    refine lv_iconst (v := (1 : Int32)) hx hb dX10_duchyPart_53 (by decide) ?_
    refine lv_aload_n hx hb dX10_duchyPart_54 rfl (lv_at hl 0 rfl) ?_
    refine lv_iconst (v := (0 : Int32)) hx hb dX10_duchyPart_55 (by decide) ?_
    refine lv_bipush (v := (20 : Int32)) hx hb dX10_duchyPart_56 (by decide) ?_
    obtain ⟨x8, s7, h6, hf⟩ := bw_s hf
    refine cVWi (As := [.int (0 : Int32), .int (20 : Int32)]) (rest := [.int (1 : Int32), .ref (eq E 520)]) X G kc_X10_292 (tX10_amount l E s5 _ hL  (0 : Int32) (20 : Int32) h6) (rcv X G (hL 500 rfl) (cO10 rfl) rfl) rfl rfl (rmk_le (by omega) (by decide)) rfl hl.1 rfl (Nat.le_of_ble_eq_true rfl) dX10_duchyPart_58 ⟨Nat.zero_le _, Nat.zero_le _⟩ (fun H locs G => ?_)
    refine ia_stc (k := 520) (n := 7) X G (hL 520 rfl) rfl (by decide) 1 (by decide) dX10_duchyPart_61 (fun s10 es10 H locs G => ?_)
    have hf := nm_s hf s10 es10
    refine lv_aload_n hx hb dX10_duchyPart_62 rfl (lv_at hl 0 rfl) ?_
    refine gf10 X G (hL 500 rfl) rfl 19 (by decide) rfl kf_X10_64 iwX10 dX10_duchyPart_63 ?_
    refine lv_iconst (v := (2 : Int32)) hx hb dX10_duchyPart_66 (by decide) ?_
    refine lv_aload_n hx hb dX10_duchyPart_67 rfl (lv_at hl 0 rfl) ?_
    refine lv_iconst (v := (0 : Int32)) hx hb dX10_duchyPart_68 (by decide) ?_
    refine lv_bipush (v := (50 : Int32)) hx hb dX10_duchyPart_69 (by decide) ?_
    obtain ⟨x13, s12, h11, hf⟩ := bw_s hf
    refine cVWi (As := [.int (0 : Int32), .int (50 : Int32)]) (rest := [.int (2 : Int32), .ref (eq E 520)]) X G kc_X10_292 (tX10_amount l E s10 _ hL  (0 : Int32) (50 : Int32) h11) (rcv X G (hL 500 rfl) (cO10 rfl) rfl) rfl rfl (rmk_le (by omega) (by decide)) rfl hl.1 rfl (Nat.le_of_ble_eq_true rfl) dX10_duchyPart_71 ⟨Nat.zero_le _, Nat.zero_le _⟩ (fun H locs G => ?_)
    refine ia_stc (k := 520) (n := 7) X G (hL 520 rfl) rfl (by decide) 2 (by decide) dX10_duchyPart_74 (fun s15 es15 H locs G => ?_)
    have hf := nm_s hf s15 es15
    refine lv_goto (tgt := 217) hx hb dX10_duchyPart_75 (by decide) ?_
    exact rtWv X hlk G hr (so_i hf) dX10_duchyPart_217
  have hf := it_f hf cs0
  by_cases cs1 : p1 = (1 : Int32)
  · have hf := it_t hf cs1
    refine tbl_in hx hb dX10_duchyPart_1 cs1 (by decide) (by decide) rfl (tgt := 78) (by decide) ?_
    refine lv_aload_n hx hb dX10_duchyPart_78 rfl (lv_at hl 0 rfl) ?_
    obtain ⟨s2, h1, hf⟩ := br_s hf
    refine cVWv (As := []) (rest := []) X G kc_X10_296 (tX10_readsHouse l E st _ hL   h1) (rcv X G (hL 500 rfl) (cO10 rfl) rfl) rfl rfl (rmk_le (by omega) (by decide)) rfl hl.1 rfl (Nat.le_of_ble_eq_true rfl) dX10_duchyPart_79 ⟨Nat.zero_le _, Nat.zero_le _⟩ (fun H locs G => ?_)
    refine lv_goto (tgt := 217) hx hb dX10_duchyPart_82 (by decide) ?_
    exact rtWv X hlk G hr (so_i hf) dX10_duchyPart_217
  have hf := it_f hf cs1
  by_cases cs2 : p1 = (2 : Int32)
  · have hf := it_t hf cs2
    refine tbl_in hx hb dX10_duchyPart_1 cs2 (by decide) (by decide) rfl (tgt := 85) (by decide) ?_
    refine lv_aload_n hx hb dX10_duchyPart_85 rfl (lv_at hl 0 rfl) ?_
    obtain ⟨s2, h1, hf⟩ := br_s hf
    refine cVWv (As := []) (rest := []) X G kc_X10_299 (tX10_readsLane l E st _ hL   h1) (rcv X G (hL 500 rfl) (cO10 rfl) rfl) rfl rfl (rmk_le (by omega) (by decide)) rfl hl.1 rfl (Nat.le_of_ble_eq_true rfl) dX10_duchyPart_86 ⟨Nat.zero_le _, Nat.zero_le _⟩ (fun H locs G => ?_)
    refine lv_goto (tgt := 217) hx hb dX10_duchyPart_89 (by decide) ?_
    exact rtWv X hlk G hr (so_i hf) dX10_duchyPart_217
  have hf := it_f hf cs2
  by_cases cs3 : p1 = (3 : Int32)
  · have hf := it_t hf cs3
    refine tbl_in hx hb dX10_duchyPart_1 cs3 (by decide) (by decide) rfl (tgt := 92) (by decide) ?_
    refine lv_aload_n hx hb dX10_duchyPart_92 rfl (lv_at hl 0 rfl) ?_
    refine lv_iconst (v := (0 : Int32)) hx hb dX10_duchyPart_93 (by decide) ?_
    refine lv_aload_n hx hb dX10_duchyPart_94 rfl (lv_at hl 0 rfl) ?_
    refine gf10 X G (hL 500 rfl) rfl 19 (by decide) rfl kf_X10_64 iwX10 dX10_duchyPart_95 ?_
    refine lv_iconst (v := (3 : Int32)) hx hb dX10_duchyPart_98 (by decide) ?_
    refine ia_ldc (k := 520) (n := 7) X G (hL 520 rfl) rfl (by decide) 3 (by decide) dX10_duchyPart_99 ?_
    refine lv_iconst (v := (1 : Int32)) hx hb dX10_duchyPart_100 (by decide) ?_
    refine lv_isub hx hb dX10_duchyPart_101 ?_
    obtain ⟨x4, s3, h2, hf⟩ := bw_s hf
    refine cVWi (As := [.int (0 : Int32), .int ((st.1 520 3) - (1 : Int32))]) (rest := []) X G kc_X10_292 (tX10_amount l E st _ hL  (0 : Int32) ((st.1 520 3) - (1 : Int32)) h2) (rcv X G (hL 500 rfl) (cO10 rfl) rfl) rfl rfl (rmk_le (by omega) (by decide)) rfl hl.1 rfl (Nat.le_of_ble_eq_true rfl) dX10_duchyPart_102 ⟨Nat.zero_le _, Nat.zero_le _⟩ (fun H locs G => ?_)
    refine lv_istore_n (lv' := [(2, .int x4), (0, .ref (eq E 500)), (1, .int p1)]) hx hb dX10_duchyPart_105 rfl hl (by decide) rfl (fun ls hl => ?_)
    refine lv_aload_n hx hb dX10_duchyPart_106 rfl (lv_at hl 1 rfl) ?_
    refine lv_iconst (v := (0 : Int32)) hx hb dX10_duchyPart_107 (by decide) ?_
    refine lv_bipush (v := (50 : Int32)) hx hb dX10_duchyPart_108 (by decide) ?_
    obtain ⟨x7, s6, h5, hf⟩ := bw_s hf
    refine cVWi (As := [.int (0 : Int32), .int (50 : Int32)]) (rest := []) X G kc_X10_292 (tX10_amount l E s3 _ hL  (0 : Int32) (50 : Int32) h5) (rcv X G (hL 500 rfl) (cO10 rfl) rfl) rfl rfl (rmk_le (by omega) (by decide)) rfl hl.1 rfl (Nat.le_of_ble_eq_true rfl) dX10_duchyPart_110 ⟨Nat.zero_le _, Nat.zero_le _⟩ (fun H locs G => ?_)
    refine lv_istore_n (lv' := [(3, .int x7), (2, .int x4), (0, .ref (eq E 500)), (1, .int p1)]) hx hb dX10_duchyPart_113 rfl hl (by decide) rfl (fun ls hl => ?_)
    refine lv_aload_n hx hb dX10_duchyPart_114 rfl (lv_at hl 2 rfl) ?_
    refine gf10 X G (hL 500 rfl) rfl 31 (by decide) rfl kf_X10_187 iwX10 dX10_duchyPart_115 ?_
    refine lv_if_ne (tgt := 217) hx hb dX10_duchyPart_118 (by decide) (fun c8 => ?_) (fun c8 => ?_)
    · have hf := it_f hf c8
      exact rtWv X hlk G hr (so_i hf) dX10_duchyPart_217
    · have hf := it_t hf c8
      refine lv_aload_n hx hb dX10_duchyPart_121 rfl (lv_at hl 2 rfl) ?_
      refine gf10 X G (hL 500 rfl) rfl 23 (by decide) rfl kf_X10_76 iwX10 dX10_duchyPart_122 ?_
      refine lv_iload_n hx hb dX10_duchyPart_125 rfl (lv_at hl 1 rfl) ?_
      refine lv_iload_n hx hb dX10_duchyPart_126 rfl (lv_at hl 0 rfl) ?_
      obtain ⟨h9, hf⟩ := gd_s hf
      refine ia_st (k := 524) (n := 8) X G (hL 524 rfl) rfl (by decide) (ix_in h9) dX10_duchyPart_127 (fun s10 es10 H locs G => ?_)
      have hf := nm_s hf s10 es10
      refine lv_goto (tgt := 217) hx hb dX10_duchyPart_128 (by decide) ?_
      exact rtWv X hlk G hr (so_i hf) dX10_duchyPart_217
  have hf := it_f hf cs3
  by_cases cs4 : p1 = (4 : Int32)
  · have hf := it_t hf cs4
    refine tbl_in hx hb dX10_duchyPart_1 cs4 (by decide) (by decide) rfl (tgt := 131) (by decide) ?_
    refine lv_aload_n hx hb dX10_duchyPart_131 rfl (lv_at hl 0 rfl) ?_
    refine gf10 X G (hL 500 rfl) rfl 19 (by decide) rfl kf_X10_64 iwX10 dX10_duchyPart_132 ?_
    refine lv_iconst (v := (5 : Int32)) hx hb dX10_duchyPart_135 (by decide) ?_
    refine ia_ldc (k := 520) (n := 7) X G (hL 520 rfl) rfl (by decide) 5 (by decide) dX10_duchyPart_136 ?_
    refine lv_topi (fun x2 ex2 => ?_)
    have hf := nm_s hf x2 ex2
    refine lv_istore_n (lv' := [(2, .int x2), (0, .ref (eq E 500)), (1, .int p1)]) hx hb dX10_duchyPart_137 rfl hl (by decide) rfl (fun ls hl => ?_)
    refine lv_aload_n hx hb dX10_duchyPart_138 rfl (lv_at hl 1 rfl) ?_
    refine gf10 X G (hL 500 rfl) rfl 25 (by decide) rfl kf_X10_82 iwX10 dX10_duchyPart_139 ?_
    refine lv_iload_n hx hb dX10_duchyPart_142 rfl (lv_at hl 0 rfl) ?_
    refine lv_aload_n hx hb dX10_duchyPart_143 rfl (lv_at hl 1 rfl) ?_
    refine lv_iconst (v := (0 : Int32)) hx hb dX10_duchyPart_144 (by decide) ?_
    refine lv_aload_n hx hb dX10_duchyPart_145 rfl (lv_at hl 1 rfl) ?_
    refine gf10 X G (hL 500 rfl) rfl 19 (by decide) rfl kf_X10_64 iwX10 dX10_duchyPart_146 ?_
    refine lv_iconst (v := (3 : Int32)) hx hb dX10_duchyPart_149 (by decide) ?_
    refine ia_ldc (k := 520) (n := 7) X G (hL 520 rfl) rfl (by decide) 3 (by decide) dX10_duchyPart_150 ?_
    refine lv_iconst (v := (1 : Int32)) hx hb dX10_duchyPart_151 (by decide) ?_
    refine lv_isub hx hb dX10_duchyPart_152 ?_
    obtain ⟨x6, s5, h4, hf⟩ := bw_s hf
    refine cVWi (As := [.int (0 : Int32), .int ((st.1 520 3) - (1 : Int32))]) (rest := [.int x2, .ref (eq E 526)]) X G kc_X10_292 (tX10_amount l E st _ hL  (0 : Int32) ((st.1 520 3) - (1 : Int32)) h4) (rcv X G (hL 500 rfl) (cO10 rfl) rfl) rfl rfl (rmk_le (by omega) (by decide)) rfl hl.1 rfl (Nat.le_of_ble_eq_true rfl) dX10_duchyPart_153 ⟨Nat.zero_le _, Nat.zero_le _⟩ (fun H locs G => ?_)
    obtain ⟨h7, hf⟩ := gd_s hf
    refine ia_st (k := 526) (n := 3) X G (hL 526 rfl) rfl (by decide) (ix_in h7) dX10_duchyPart_156 (fun s8 es8 H locs G => ?_)
    have hf := nm_s hf s8 es8
    refine lv_aload_n hx hb dX10_duchyPart_157 rfl (lv_at hl 1 rfl) ?_
    refine gf10 X G (hL 500 rfl) rfl 26 (by decide) rfl kf_X10_85 iwX10 dX10_duchyPart_158 ?_
    refine lv_iload_n hx hb dX10_duchyPart_161 rfl (lv_at hl 0 rfl) ?_
    refine lv_aload_n hx hb dX10_duchyPart_162 rfl (lv_at hl 1 rfl) ?_
    refine lv_iconst (v := (1 : Int32)) hx hb dX10_duchyPart_163 (by decide) ?_
    refine lv_sipush (v := (200 : Int32)) hx hb dX10_duchyPart_164 (by decide) ?_
    obtain ⟨x11, s10, h9, hf⟩ := bw_s hf
    refine cVWi (As := [.int (1 : Int32), .int (200 : Int32)]) (rest := [.int x2, .ref (eq E 527)]) X G kc_X10_292 (tX10_amount l E s8 _ hL  (1 : Int32) (200 : Int32) h9) (rcv X G (hL 500 rfl) (cO10 rfl) rfl) rfl rfl (rmk_le (by omega) (by decide)) rfl hl.1 rfl (Nat.le_of_ble_eq_true rfl) dX10_duchyPart_167 ⟨Nat.zero_le _, Nat.zero_le _⟩ (fun H locs G => ?_)
    obtain ⟨h12, hf⟩ := gd_s hf
    refine ia_st (k := 527) (n := 3) X G (hL 527 rfl) rfl (by decide) (ix_in h12) dX10_duchyPart_170 (fun s13 es13 H locs G => ?_)
    have hf := nm_s hf s13 es13
    refine lv_aload_n hx hb dX10_duchyPart_171 rfl (lv_at hl 1 rfl) ?_
    refine gf10 X G (hL 500 rfl) rfl 19 (by decide) rfl kf_X10_64 iwX10 dX10_duchyPart_172 ?_
    refine lv_iconst (v := (5 : Int32)) hx hb dX10_duchyPart_175 (by decide) ?_
    refine lv_dup2_11 hx hb dX10_duchyPart_176 rfl rfl ?_
    refine ia_ldc (k := 520) (n := 7) X G (hL 520 rfl) rfl (by decide) 5 (by decide) dX10_duchyPart_177 ?_
    refine lv_iconst (v := (1 : Int32)) hx hb dX10_duchyPart_178 (by decide) ?_
    refine lv_iadd hx hb dX10_duchyPart_179 ?_
    refine ia_stc (k := 520) (n := 7) X G (hL 520 rfl) rfl (by decide) 5 (by decide) dX10_duchyPart_180 (fun s16 es16 H locs G => ?_)
    have hf := nm_s hf s16 es16
    refine lv_goto (tgt := 217) hx hb dX10_duchyPart_181 (by decide) ?_
    exact rtWv X hlk G hr (so_i hf) dX10_duchyPart_217
  have hf := it_f hf cs4
  have kd : W p l e (rmk 5) s m [.ref (eq E 500), .int p1].toArray below meth c s.heap [] 0 0 (MQ below (QWv E res sz) [.ref (eq E 500), .int p1].toArray s 0 0 (Af E sz)) (F0 m 184 ls []) := by
    refine lv_aload_n hx hb dX10_duchyPart_184 rfl (lv_at hl 0 rfl) ?_
    refine lv_iconst (v := (0 : Int32)) hx hb dX10_duchyPart_185 (by decide) ?_
    refine lv_bipush (v := (99 : Int32)) hx hb dX10_duchyPart_186 (by decide) ?_
    obtain ⟨x3, s2, h1, hf⟩ := bw_s hf
    refine cVWi (As := [.int (0 : Int32), .int (99 : Int32)]) (rest := []) X G kc_X10_292 (tX10_amount l E st _ hL  (0 : Int32) (99 : Int32) h1) (rcv X G (hL 500 rfl) (cO10 rfl) rfl) rfl rfl (rmk_le (by omega) (by decide)) rfl hl.1 rfl (Nat.le_of_ble_eq_true rfl) dX10_duchyPart_188 ⟨Nat.zero_le _, Nat.zero_le _⟩ (fun H locs G => ?_)
    refine lv_istore_n (lv' := [(2, .int x3), (0, .ref (eq E 500)), (1, .int p1)]) hx hb dX10_duchyPart_191 rfl hl (by decide) rfl (fun ls hl => ?_)
    refine lv_aload_n hx hb dX10_duchyPart_192 rfl (lv_at hl 1 rfl) ?_
    refine gf10 X G (hL 500 rfl) rfl 31 (by decide) rfl kf_X10_187 iwX10 dX10_duchyPart_193 ?_
    refine lv_if_ne (tgt := 206) hx hb dX10_duchyPart_196 (by decide) (fun c4 => ?_) (fun c4 => ?_)
    · have hf := it_f hf c4
      exact wX10_duchyPart_B206 hL X hr hlk s2 _ _ hf G _ (lv_sub hl [1] rfl)
    · have hf := it_t hf c4
      refine lv_aload_n hx hb dX10_duchyPart_199 rfl (lv_at hl 1 rfl) ?_
      refine gf10 X G (hL 500 rfl) rfl 27 (by decide) rfl kf_X10_88 iwX10 dX10_duchyPart_200 ?_
      refine lv_iload_n hx hb dX10_duchyPart_203 rfl (lv_at hl 0 rfl) ?_
      refine lv_iconst (v := (1 : Int32)) hx hb dX10_duchyPart_204 (by decide) ?_
      obtain ⟨h5, hf⟩ := gd_s hf
      refine ia_st (k := 528) (n := 100) X G (hL 528 rfl) rfl (by decide) (ix_in h5) dX10_duchyPart_205 (fun s6 es6 H locs G => ?_)
      have hf := nm_s hf s6 es6
      exact wX10_duchyPart_B206 hL X hr hlk s6 _ _ hf G _ (lv_sub hl [1] rfl)
  refine lv_tableOut (tgt := 184) hx hb dX10_duchyPart_1 (sw_out (fun v h1 h2 => ?_)) (by decide) kd
  rcases (show v = 0 ∨ v = 1 ∨ v = 2 ∨ v = 3 ∨ v = 4 by omega) with rfl | rfl | rfl | rfl | rfl
  · exact cs0
  · exact cs1
  · exact cs2
  · exact cs3
  · exact cs4
def fX10_isFull_B24 (p1 : Int32) (p2 : Int32) (st : St) (z0 : Int32) (z1 : Int32) : Option Int32 := if z1 = z0 then (if p1 = (1 : Int32) then (if (st.1 520 3) = (8 : Int32) then (some (1 : Int32)) else (some (0 : Int32))) else (if p1 = (2 : Int32) then (if (st.1 520 4) = (12 : Int32) then (some (1 : Int32)) else (some (0 : Int32))) else (if p1 = (4 : Int32) then (if (st.1 520 5) = (3 : Int32) then (some (1 : Int32)) else (some (0 : Int32))) else (if p1 = (5 : Int32) then (if (st.1 520 6) = (6 : Int32) then (some (1 : Int32)) else (some (0 : Int32))) else (some (0 : Int32)))))) else (some (1 : Int32))
set_option maxRecDepth 100000 in
theorem wX10_isFull_B24 {p : Program} {l : Launch} {e : Env} {s : State} {m : MethodId} {args : Array Value} {below : List Frame} {meth : Method} {c : Code} {E : Ev} (hL : ∀ k, fxM k = true → k ∈ eL E) {p1 : Int32} {p2 : Int32} {st : St} {sz : Nat} {res : Int32} (X : CX p s m args c E RX10 cX10_isFull 3 (Af E sz)) (hr : meth.sig.returnType = (some .boolean)) (hlk : meth.locks = false) (G : Gd E st (Af E sz) s s.heap []) : ∀ (z0 : Int32) (z1 : Int32), fX10_isFull_B24 p1 p2 st  z0 z1 = some res → ∀ ls : Array Slot, lv_has ls 3 [(0, .ref (eq E 500)), (1, .int p1)] → W p l e (rmk 0) s m args below meth c s.heap [] 0 0 (MQ below (QRi res) args s 0 0 (NoF)) (F0 m 24 ls [.int z0, .int z1]) := by
  have hx := X.1.1
  have hb := X.1.2.1
  intro z0 z1 hf ls hl
  unfold fX10_isFull_B24 at hf
  refine lv_icmp_eq (tgt := 29) hx hb dX10_isFull_24 (by decide) (fun c1 => ?_) (fun c1 => ?_)
  · have hf := it_t hf c1
    refine lv_iload_n hx hb dX10_isFull_29 rfl (lv_at hl 1 rfl) ?_
    by_cases cs1 : p1 = (1 : Int32)
    · have hf := it_t hf cs1
      refine tbl_in hx hb dX10_isFull_30 cs1 (by decide) (by decide) rfl (tgt := 64) (by decide) ?_
      refine lv_aload_n hx hb dX10_isFull_64 rfl (lv_at hl 0 rfl) ?_
      refine gf10 X G (hL 500 rfl) rfl 19 (by decide) rfl kf_X10_64 iwX10 dX10_isFull_65 ?_
      refine lv_iconst (v := (3 : Int32)) hx hb dX10_isFull_68 (by decide) ?_
      refine ia_ldc (k := 520) (n := 7) X G (hL 520 rfl) rfl (by decide) 3 (by decide) dX10_isFull_69 ?_
      refine lv_bipush (v := (8 : Int32)) hx hb dX10_isFull_70 (by decide) ?_
      refine lv_icmp_ne (tgt := 79) hx hb dX10_isFull_72 (by decide) (fun c3 => ?_) (fun c3 => ?_)
      · have hf := it_f hf c3
        refine lv_iconst (v := (0 : Int32)) hx hb dX10_isFull_79 (by decide) ?_
        exact rtRz X hlk hr rfl (so_i hf) dX10_isFull_80
      · have hf := it_t hf c3
        refine lv_iconst (v := (1 : Int32)) hx hb dX10_isFull_75 (by decide) ?_
        refine lv_goto (tgt := 80) hx hb dX10_isFull_76 (by decide) ?_
        exact rtRz X hlk hr rfl (so_i hf) dX10_isFull_80
    have hf := it_f hf cs1
    by_cases cs2 : p1 = (2 : Int32)
    · have hf := it_t hf cs2
      refine tbl_in hx hb dX10_isFull_30 cs2 (by decide) (by decide) rfl (tgt := 81) (by decide) ?_
      refine lv_aload_n hx hb dX10_isFull_81 rfl (lv_at hl 0 rfl) ?_
      refine gf10 X G (hL 500 rfl) rfl 19 (by decide) rfl kf_X10_64 iwX10 dX10_isFull_82 ?_
      refine lv_iconst (v := (4 : Int32)) hx hb dX10_isFull_85 (by decide) ?_
      refine ia_ldc (k := 520) (n := 7) X G (hL 520 rfl) rfl (by decide) 4 (by decide) dX10_isFull_86 ?_
      refine lv_bipush (v := (12 : Int32)) hx hb dX10_isFull_87 (by decide) ?_
      refine lv_icmp_ne (tgt := 96) hx hb dX10_isFull_89 (by decide) (fun c3 => ?_) (fun c3 => ?_)
      · have hf := it_f hf c3
        refine lv_iconst (v := (0 : Int32)) hx hb dX10_isFull_96 (by decide) ?_
        exact rtRz X hlk hr rfl (so_i hf) dX10_isFull_97
      · have hf := it_t hf c3
        refine lv_iconst (v := (1 : Int32)) hx hb dX10_isFull_92 (by decide) ?_
        refine lv_goto (tgt := 97) hx hb dX10_isFull_93 (by decide) ?_
        exact rtRz X hlk hr rfl (so_i hf) dX10_isFull_97
    have hf := it_f hf cs2
    by_cases cs4 : p1 = (4 : Int32)
    · have hf := it_t hf cs4
      refine tbl_in hx hb dX10_isFull_30 cs4 (by decide) (by decide) rfl (tgt := 98) (by decide) ?_
      refine lv_aload_n hx hb dX10_isFull_98 rfl (lv_at hl 0 rfl) ?_
      refine gf10 X G (hL 500 rfl) rfl 19 (by decide) rfl kf_X10_64 iwX10 dX10_isFull_99 ?_
      refine lv_iconst (v := (5 : Int32)) hx hb dX10_isFull_102 (by decide) ?_
      refine ia_ldc (k := 520) (n := 7) X G (hL 520 rfl) rfl (by decide) 5 (by decide) dX10_isFull_103 ?_
      refine lv_iconst (v := (3 : Int32)) hx hb dX10_isFull_104 (by decide) ?_
      refine lv_icmp_ne (tgt := 112) hx hb dX10_isFull_105 (by decide) (fun c3 => ?_) (fun c3 => ?_)
      · have hf := it_f hf c3
        refine lv_iconst (v := (0 : Int32)) hx hb dX10_isFull_112 (by decide) ?_
        exact rtRz X hlk hr rfl (so_i hf) dX10_isFull_113
      · have hf := it_t hf c3
        refine lv_iconst (v := (1 : Int32)) hx hb dX10_isFull_108 (by decide) ?_
        refine lv_goto (tgt := 113) hx hb dX10_isFull_109 (by decide) ?_
        exact rtRz X hlk hr rfl (so_i hf) dX10_isFull_113
    have hf := it_f hf cs4
    by_cases cs5 : p1 = (5 : Int32)
    · have hf := it_t hf cs5
      refine tbl_in hx hb dX10_isFull_30 cs5 (by decide) (by decide) rfl (tgt := 114) (by decide) ?_
      refine lv_aload_n hx hb dX10_isFull_114 rfl (lv_at hl 0 rfl) ?_
      refine gf10 X G (hL 500 rfl) rfl 19 (by decide) rfl kf_X10_64 iwX10 dX10_isFull_115 ?_
      refine lv_bipush (v := (6 : Int32)) hx hb dX10_isFull_118 (by decide) ?_
      refine ia_ldc (k := 520) (n := 7) X G (hL 520 rfl) rfl (by decide) 6 (by decide) dX10_isFull_120 ?_
      refine lv_bipush (v := (6 : Int32)) hx hb dX10_isFull_121 (by decide) ?_
      refine lv_icmp_ne (tgt := 130) hx hb dX10_isFull_123 (by decide) (fun c3 => ?_) (fun c3 => ?_)
      · have hf := it_f hf c3
        refine lv_iconst (v := (0 : Int32)) hx hb dX10_isFull_130 (by decide) ?_
        exact rtRz X hlk hr rfl (so_i hf) dX10_isFull_131
      · have hf := it_t hf c3
        refine lv_iconst (v := (1 : Int32)) hx hb dX10_isFull_126 (by decide) ?_
        refine lv_goto (tgt := 131) hx hb dX10_isFull_127 (by decide) ?_
        exact rtRz X hlk hr rfl (so_i hf) dX10_isFull_131
    have hf := it_f hf cs5
    have kd : W p l e (rmk 0) s m args below meth c s.heap [] 0 0 (MQ below (QRi res) args s 0 0 (NoF)) (F0 m 132 ls []) := by
      refine lv_iconst (v := (0 : Int32)) hx hb dX10_isFull_132 (by decide) ?_
      exact rtRz X hlk hr rfl (so_i hf) dX10_isFull_133
    by_cases cs3 : p1 = (3 : Int32)
    · exact tbl_in hx hb dX10_isFull_30 cs3 (by decide) (by decide) rfl (tgt := 132) (by decide) kd
    refine lv_tableOut (tgt := 132) hx hb dX10_isFull_30 (sw_out (fun v h1 h2 => ?_)) (by decide) kd
    rcases (show v = 1 ∨ v = 2 ∨ v = 3 ∨ v = 4 ∨ v = 5 by omega) with rfl | rfl | rfl | rfl | rfl
    · exact cs1
    · exact cs2
    · exact cs3
    · exact cs4
    · exact cs5
  · have hf := it_f hf c1
    refine lv_iconst (v := (1 : Int32)) hx hb dX10_isFull_27 (by decide) ?_
    exact rtRz X hlk hr rfl (so_i hf) dX10_isFull_28
def fX10_isFull_B15 (p1 : Int32) (p2 : Int32) (st : St) (z0 : Int32) : Option Int32 := if p2 = 0 then (fX10_isFull_B24 p1 p2 st (1 : Int32) z0) else (fX10_isFull_B24 p1 p2 st (0 : Int32) z0)
set_option maxRecDepth 100000 in
theorem wX10_isFull_B15 {p : Program} {l : Launch} {e : Env} {s : State} {m : MethodId} {args : Array Value} {below : List Frame} {meth : Method} {c : Code} {E : Ev} (hL : ∀ k, fxM k = true → k ∈ eL E) {p1 : Int32} {p2 : Int32} {st : St} {sz : Nat} {res : Int32} (X : CX p s m args c E RX10 cX10_isFull 3 (Af E sz)) (hr : meth.sig.returnType = (some .boolean)) (hlk : meth.locks = false) (G : Gd E st (Af E sz) s s.heap []) : ∀ (z0 : Int32), fX10_isFull_B15 p1 p2 st  z0 = some res → ∀ ls : Array Slot, lv_has ls 3 [(0, .ref (eq E 500)), (1, .int p1), (2, .int p2)] → W p l e (rmk 0) s m args below meth c s.heap [] 0 0 (MQ below (QRi res) args s 0 0 (NoF)) (F0 m 15 ls [.int z0]) := by
  have hx := X.1.1
  have hb := X.1.2.1
  intro z0 hf ls hl
  unfold fX10_isFull_B15 at hf
  refine lv_iload_n hx hb dX10_isFull_15 rfl (lv_at hl 2 rfl) ?_
  refine lv_if_ne (tgt := 23) hx hb dX10_isFull_16 (by decide) (fun c1 => ?_) (fun c1 => ?_)
  · have hf := it_f hf c1
    refine lv_iconst (v := (0 : Int32)) hx hb dX10_isFull_23 (by decide) ?_
    exact wX10_isFull_B24 hL X hr hlk G (0 : Int32) z0 hf _ (lv_sub hl [0, 1] rfl)
  · have hf := it_t hf c1
    refine lv_iconst (v := (1 : Int32)) hx hb dX10_isFull_19 (by decide) ?_
    refine lv_goto (tgt := 24) hx hb dX10_isFull_20 (by decide) ?_
    exact wX10_isFull_B24 hL X hr hlk G (1 : Int32) z0 hf _ (lv_sub hl [0, 1] rfl)
def fX10_isFull (st : St) (p1 : Int32) (p2 : Int32) : Option Int32 := if p2 = (40 : Int32) then (some (1 : Int32)) else (if p1 = 0 then (fX10_isFull_B15 p1 p2 st (1 : Int32)) else (fX10_isFull_B15 p1 p2 st (0 : Int32)))
set_option maxRecDepth 100000 in
theorem tX10_isFull (l : Launch) (E : Ev) (st : St) (sz : Nat) (hL : ∀ k, fxM k = true → k ∈ eL E) (p1 : Int32) (p2 : Int32) {res : Int32} (hf : fX10_isFull st p1 p2 = some res) : Met l yX10_isFull (.code yX10_isFull cX10_isFull 3 (some .boolean) :: uW) (rmk 0) (va_Pc [.ref (eq E 500), .int p1, .int p2] (Pre E st sz)) (QRi res) 0 0 (NoF) := by
  refine Met_in (by decide) (Nat.le_of_ble_eq_true rfl) ?_
  intro p e s m below meth c X hr hlk hz G ls hl
  have hx := X.1.1
  have hb := X.1.2.1
  have hl : lv_has ls 3 [(0, .ref (eq E 500)), (1, .int p1), (2, .int p2)] := hl
  unfold fX10_isFull at hf
  refine lv_iload_n hx hb dX10_isFull_0 rfl (lv_at hl 2 rfl) ?_
  refine lv_bipush (v := (40 : Int32)) hx hb dX10_isFull_1 (by decide) ?_
  refine lv_icmp_eq (tgt := 27) hx hb dX10_isFull_3 (by decide) (fun c1 => ?_) (fun c1 => ?_)
  · have hf := it_t hf c1
    refine lv_iconst (v := (1 : Int32)) hx hb dX10_isFull_27 (by decide) ?_
    exact rtRz X hlk hr rfl (so_i hf) dX10_isFull_28
  · have hf := it_f hf c1
    refine lv_iload_n hx hb dX10_isFull_6 rfl (lv_at hl 1 rfl) ?_
    refine lv_if_ne (tgt := 14) hx hb dX10_isFull_7 (by decide) (fun c2 => ?_) (fun c2 => ?_)
    · have hf := it_f hf c2
      refine lv_iconst (v := (0 : Int32)) hx hb dX10_isFull_14 (by decide) ?_
      exact wX10_isFull_B15 hL X hr hlk G (0 : Int32) hf _ (lv_sub hl [0, 1, 2] rfl)
    · have hf := it_t hf c2
      refine lv_iconst (v := (1 : Int32)) hx hb dX10_isFull_10 (by decide) ?_
      refine lv_goto (tgt := 15) hx hb dX10_isFull_11 (by decide) ?_
      exact wX10_isFull_B15 hL X hr hlk G (1 : Int32) hf _ (lv_sub hl [0, 1, 2] rfl)
def fX10_duchyClause_B34 (p1 : Int32) (y2 : Int32) (y3 : Int32) (st : St) : Option St := if y3 = (6 : Int32) then (br (fX10_fails (0 : Int32) y2 st) (fun s3 => some s3)) else (br (fX10_isFull st y3 p1) (fun x3 => if x3 = 0 then (br (fX10_duchyWord y3) (fun x6 => gd (decide (x6 < 23)) (br (fJ0_length_8abf5 x6) (fun x9 => nm (ui st 500 30 ((st.1 500 30) + x9)) (fun s10 => br (fX10_duchyPart y3 s10) (fun s12 => some s12)))))) else (br (fX10_fails (4 : Int32) y2 st) (fun s6 => some s6))))
set_option maxRecDepth 100000 in
theorem wX10_duchyClause_B34 {p : Program} {l : Launch} {e : Env} {s : State} {m : MethodId} {args : Array Value} {below : List Frame} {meth : Method} {c : Code} {E : Ev} (hL : ∀ k, fxM k = true → k ∈ eL E) {p1 : Int32} {sz : Nat} {res : St} (X : CX p s m args c E RX10 cX10_duchyClause 4 (Af E sz)) (hr : meth.sig.returnType = none) (hlk : meth.locks = false) : ∀ (y2 : Int32) (y3 : Int32) (st : St) (H : Heap) (locs : List Loc), fX10_duchyClause_B34 p1  y2 y3 st = some res → Gd E st (Af E sz) s H locs → ∀ ls : Array Slot, lv_has ls 4 [(0, .ref (eq E 500)), (1, .int p1), (2, .int y2), (3, .int y3)] → W p l e (rmk 6) s m args below meth c H locs 0 0 (MQ below (QWv E res sz) args s 0 0 (Af E sz)) (F0 m 34 ls []) := by
  have hx := X.1.1
  have hb := X.1.2.1
  intro y2 y3 st H locs hf G ls hl
  unfold fX10_duchyClause_B34 at hf
  refine lv_iload_n hx hb dX10_duchyClause_34 rfl (lv_at hl 3 rfl) ?_
  refine lv_bipush (v := (6 : Int32)) hx hb dX10_duchyClause_35 (by decide) ?_
  refine lv_icmp_ne (tgt := 47) hx hb dX10_duchyClause_37 (by decide) (fun c1 => ?_) (fun c1 => ?_)
  · have hf := it_f hf c1
    refine lv_aload_n hx hb dX10_duchyClause_47 rfl (lv_at hl 0 rfl) ?_
    refine lv_iload_n hx hb dX10_duchyClause_48 rfl (lv_at hl 3 rfl) ?_
    refine lv_iload_n hx hb dX10_duchyClause_49 rfl (lv_at hl 1 rfl) ?_
    obtain ⟨x3, h2, hf⟩ := br_s hf
    refine cVRi (As := [.int y3, .int p1]) (rest := []) X G kc_X10_305 (tX10_isFull l E st _ hL  y3 p1 h2) (rcv X G (hL 500 rfl) (cO10 rfl) rfl) rfl rfl (rmk_le (by omega) (by decide)) rfl hl.1 rfl (Nat.le_of_ble_eq_true rfl) dX10_duchyClause_50 ⟨Nat.zero_le _, Nat.zero_le _⟩ ?_
    refine lv_if_eq (tgt := 63) hx hb dX10_duchyClause_53 (by decide) (fun c4 => ?_) (fun c4 => ?_)
    · have hf := it_t hf c4
      refine lv_aload_n hx hb dX10_duchyClause_63 rfl (lv_at hl 0 rfl) ?_
      refine lv_dup hx hb dX10_duchyClause_64 rfl ?_
      refine gf10 X G (hL 500 rfl) rfl 30 (by decide) rfl kf_X10_190 iwX10 dX10_duchyClause_65 ?_
      refine lv_iload_n hx hb dX10_duchyClause_68 rfl (lv_at hl 3 rfl) ?_
      obtain ⟨x6, h5, hf⟩ := br_s hf
      obtain ⟨h7, hf⟩ := gd_s hf
      refine cSRq (As := [.int y3]) (rest := [.int (st.1 500 30), .ref (eq E 500)]) X G kc_X10_302 (tX10_duchyWord l E st _  y3 h5) rfl rfl (rmk_le (by omega) (by decide)) rfl hl.1 rfl (Nat.le_of_ble_eq_true rfl) dX10_duchyClause_69 ⟨Nat.zero_le _, Nat.zero_le _⟩ ?_
      obtain ⟨x9, h8, hf⟩ := br_s hf
      refine cVRi (As := []) (rest := [.int (st.1 500 30), .ref (eq E 500)]) X G kc_X10_201 (tJ0_length_8abf5 l E st _ (of_decide_eq_true h7)  h8) (vk_recv X.2.2.2.1.1 (of_decide_eq_true h7) G.2.2) rfl rfl (rmk_le (by omega) (by decide)) rfl hl.1 rfl (Nat.le_of_ble_eq_true rfl) dX10_duchyClause_72 ⟨Nat.zero_le _, Nat.zero_le _⟩ ?_
      refine lv_iadd hx hb dX10_duchyClause_75 ?_
      refine pf10 X G (hL 500 rfl) rfl 30 (by decide) ps10_30 uio kf_X10_190 iwX10 rfl (ty := .int) (by decide +kernel) rfl rfl dX10_duchyClause_76 (fun s10 es10 H locs G => ?_)
      have hf := nm_s hf s10 es10
      refine lv_aload_n hx hb dX10_duchyClause_79 rfl (lv_at hl 0 rfl) ?_
      refine lv_iload_n hx hb dX10_duchyClause_80 rfl (lv_at hl 3 rfl) ?_
      obtain ⟨s12, h11, hf⟩ := br_s hf
      refine cVWv (As := [.int y3]) (rest := []) X G kc_X10_308 (tX10_duchyPart l E s10 _ hL  y3 h11) (rcv X G (hL 500 rfl) (cO10 rfl) rfl) rfl rfl (rmk_le (by omega) (by decide)) rfl hl.1 rfl (Nat.le_of_ble_eq_true rfl) dX10_duchyClause_81 ⟨Nat.zero_le _, Nat.zero_le _⟩ (fun H locs G => ?_)
      exact rtWv X hlk G hr (so_i hf) dX10_duchyClause_84
    · have hf := it_f hf c4
      refine lv_aload_n hx hb dX10_duchyClause_56 rfl (lv_at hl 0 rfl) ?_
      refine lv_iconst (v := (4 : Int32)) hx hb dX10_duchyClause_57 (by decide) ?_
      refine lv_iload_n hx hb dX10_duchyClause_58 rfl (lv_at hl 2 rfl) ?_
      obtain ⟨s6, h5, hf⟩ := br_s hf
      refine cVWv (As := [.int (4 : Int32), .int y2]) (rest := []) X G kc_X10_226 (tX10_fails l E st _ hL  (4 : Int32) y2 h5) (rcv X G (hL 500 rfl) (cO10 rfl) rfl) rfl rfl (rmk_le (by omega) (by decide)) rfl hl.1 rfl (Nat.le_of_ble_eq_true rfl) dX10_duchyClause_59 ⟨Nat.zero_le _, Nat.zero_le _⟩ (fun H locs G => ?_)
      exact rtWv X hlk G hr (so_i hf) dX10_duchyClause_62
  · have hf := it_t hf c1
    refine lv_aload_n hx hb dX10_duchyClause_40 rfl (lv_at hl 0 rfl) ?_
    refine lv_iconst (v := (0 : Int32)) hx hb dX10_duchyClause_41 (by decide) ?_
    refine lv_iload_n hx hb dX10_duchyClause_42 rfl (lv_at hl 2 rfl) ?_
    obtain ⟨s3, h2, hf⟩ := br_s hf
    refine cVWv (As := [.int (0 : Int32), .int y2]) (rest := []) X G kc_X10_226 (tX10_fails l E st _ hL  (0 : Int32) y2 h2) (rcv X G (hL 500 rfl) (cO10 rfl) rfl) rfl rfl (rmk_le (by omega) (by decide)) rfl hl.1 rfl (Nat.le_of_ble_eq_true rfl) dX10_duchyClause_43 ⟨Nat.zero_le _, Nat.zero_le _⟩ (fun H locs G => ?_)
    exact rtWv X hlk G hr (so_i hf) dX10_duchyClause_46
def fX10_duchyClause_L11 (p1 : Int32) : Nat → Int32 → Int32 → St → Option St
  | 0, _, _, _ => none
  | n + 1, y2, y3, st => if (6 : Int32) ≤ y3 then (fX10_duchyClause_B34 p1 y2 y3 st) else (br (fX10_duchyWord y3) (fun x3 => gd (decide (x3 < 23)) (br (fX10_stood x3 st) (fun x6 => if x6 = 0 then (nm (y3 + (1 : Int32)) (fun x8 => (fX10_duchyClause_L11 p1 n) y2 x8 st)) else (fX10_duchyClause_B34 p1 y2 y3 st)))))
set_option maxRecDepth 100000 in
theorem wX10_duchyClause_L11 {p : Program} {l : Launch} {e : Env} {s : State} {m : MethodId} {args : Array Value} {below : List Frame} {meth : Method} {c : Code} {E : Ev} (hL : ∀ k, fxM k = true → k ∈ eL E) {p1 : Int32} {sz : Nat} {res : St} (X : CX p s m args c E RX10 cX10_duchyClause 4 (Af E sz)) (hr : meth.sig.returnType = none) (hlk : meth.locks = false) : ∀ (n : Nat) (y2 : Int32) (y3 : Int32) (st : St) (H : Heap) (locs : List Loc), fX10_duchyClause_L11 p1  n y2 y3 st = some res → Gd E st (Af E sz) s H locs → ∀ ls : Array Slot, lv_has ls 4 [(0, .ref (eq E 500)), (1, .int p1), (2, .int y2), (3, .int y3)] → W p l e (rmk 6) s m args below meth c H locs 0 0 (MQ below (QWv E res sz) args s 0 0 (Af E sz)) (F0 m 11 ls []) := by
  have hx := X.1.1
  have hb := X.1.2.1
  intro n
  induction n with
  | zero =>
    intro y2 y3 st H locs hf G ls hl
    cases (show (none : Option St) = some res from hf)
  | succ n ih =>
    intro y2 y3 st H locs hf G ls hl
    rw [fX10_duchyClause_L11] at hf
    refine lv_iload_n hx hb dX10_duchyClause_11 rfl (lv_at hl 3 rfl) ?_
    refine lv_bipush (v := (6 : Int32)) hx hb dX10_duchyClause_12 (by decide) ?_
    refine lv_icmp_ge (tgt := 34) hx hb dX10_duchyClause_14 (by decide) (fun c1 => ?_) (fun c1 => ?_)
    · have hf := it_t hf c1
      exact wX10_duchyClause_B34 hL X hr hlk y2 y3 st _ _ hf G _ (lv_sub hl [0, 1, 2, 3] rfl)
    · have hf := it_f hf c1
      refine lv_aload_n hx hb dX10_duchyClause_17 rfl (lv_at hl 0 rfl) ?_
      refine lv_iload_n hx hb dX10_duchyClause_18 rfl (lv_at hl 3 rfl) ?_
      obtain ⟨x3, h2, hf⟩ := br_s hf
      obtain ⟨h4, hf⟩ := gd_s hf
      refine cSRq (As := [.int y3]) (rest := [.ref (eq E 500)]) X G kc_X10_302 (tX10_duchyWord l E st _  y3 h2) rfl rfl (rmk_le (by omega) (by decide)) rfl hl.1 rfl (Nat.le_of_ble_eq_true rfl) dX10_duchyClause_19 ⟨Nat.zero_le _, Nat.zero_le _⟩ ?_
      obtain ⟨x6, h5, hf⟩ := br_s hf
      refine cVRi (As := [.ref (eK E x3)]) (rest := []) X G kc_X10_213 (tX10_stood l E st _ hL (of_decide_eq_true h4)  h5) (rcv X G (hL 500 rfl) (cO10 rfl) rfl) rfl rfl (rmk_le (by omega) (by decide)) rfl hl.1 rfl (Nat.le_of_ble_eq_true rfl) dX10_duchyClause_22 ⟨Nat.zero_le _, Nat.zero_le _⟩ ?_
      refine lv_if_ne (tgt := 34) hx hb dX10_duchyClause_25 (by decide) (fun c7 => ?_) (fun c7 => ?_)
      · have hf := it_f hf c7
        exact wX10_duchyClause_B34 hL X hr hlk y2 y3 st _ _ hf G _ (lv_sub hl [0, 1, 2, 3] rfl)
      · have hf := it_t hf c7
        obtain ⟨x8, ex8⟩ : ∃ y : Int32, y = (y3 + (1 : Int32)) := ⟨_, rfl⟩
        have hf := nm_s hf x8 ex8
        refine lv_iinc (k := 3) (v := x8) (lv' := [(3, .int x8), (0, .ref (eq E 500)), (1, .int p1), (2, .int y2)]) hx hb dX10_duchyClause_28 hl rfl (by rw [ex8]; rfl) (by decide) rfl (fun ls hl => ?_)
        refine lv_goto (tgt := 11) hx hb dX10_duchyClause_31 (by decide) ?_
        exact ih y2 x8 st _ _ hf G _ (lv_sub hl [1, 2, 3, 0] rfl)
def fX10_duchyClause (p1 : Int32) (st : St) : Option St := br (fX10_blanks st) (fun s2 => nm (s2.1 500 30) (fun x3 => fX10_duchyClause_L11 p1 10000 x3 (0 : Int32) s2))
set_option maxRecDepth 100000 in
theorem tX10_duchyClause (l : Launch) (E : Ev) (st : St) (sz : Nat) (hL : ∀ k, fxM k = true → k ∈ eL E) (p1 : Int32) {res : St} (hf : fX10_duchyClause  p1 st = some res) : Met l yX10_duchyClause (.code yX10_duchyClause cX10_duchyClause 4 none :: uW) (rmk 6) (va_Pc [.ref (eq E 500), .int p1] (Pre E st sz)) (QWv E res sz) 0 0 (Af E sz) := by
  refine Met_in (by decide) (Nat.le_of_ble_eq_true rfl) ?_
  intro p e s m below meth c X hr hlk hz G ls hl
  have hx := X.1.1
  have hb := X.1.2.1
  have hl : lv_has ls 4 [(0, .ref (eq E 500)), (1, .int p1)] := hl
  unfold fX10_duchyClause at hf
  refine lv_aload_n hx hb dX10_duchyClause_0 rfl (lv_at hl 0 rfl) ?_
  obtain ⟨s2, h1, hf⟩ := br_s hf
  refine cVWv (As := []) (rest := []) X G kc_X10_210 (tX10_blanks l E st _ hL   h1) (rcv X G (hL 500 rfl) (cO10 rfl) rfl) rfl rfl (rmk_le (by omega) (by decide)) rfl hl.1 rfl (Nat.le_of_ble_eq_true rfl) dX10_duchyClause_1 ⟨Nat.zero_le _, Nat.zero_le _⟩ (fun H locs G => ?_)
  refine lv_aload_n hx hb dX10_duchyClause_4 rfl (lv_at hl 0 rfl) ?_
  refine gf10 X G (hL 500 rfl) rfl 30 (by decide) rfl kf_X10_190 iwX10 dX10_duchyClause_5 ?_
  refine lv_topi (fun x3 ex3 => ?_)
  have hf := nm_s hf x3 ex3
  refine lv_istore_n (lv' := [(2, .int x3), (0, .ref (eq E 500)), (1, .int p1)]) hx hb dX10_duchyClause_8 rfl hl (by decide) rfl (fun ls hl => ?_)
  refine lv_iconst (v := (0 : Int32)) hx hb dX10_duchyClause_9 (by decide) ?_
  refine lv_istore_n (lv' := [(3, .int (0 : Int32)), (2, .int x3), (0, .ref (eq E 500)), (1, .int p1)]) hx hb dX10_duchyClause_10 rfl hl (by decide) rfl (fun ls hl => ?_)
  exact wX10_duchyClause_L11 hL X hr hlk 10000 x3 (0 : Int32) s2 _ _ hf G _ (lv_sub hl [2, 3, 1, 0] rfl)
def fX10_copies_L2 (a1 : Nat) (n1 : Nat) (a2 : Nat) (n2 : Nat) : Nat → Int32 → St → Option St
  | 0, _, _ => none
  | n + 1, y2, st => if (Int32.ofNat n1) ≤ y2 then (some st) else (gd (ix y2 n1) (gd (ix y2 n2) (nm (ui st a2 y2.toNatClampNeg (st.1 a1 y2.toNatClampNeg)) (fun s4 => nm (y2 + (1 : Int32)) (fun x5 => (fX10_copies_L2 a1 n1 a2 n2 n) x5 s4)))))
set_option maxRecDepth 100000 in
theorem wX10_copies_L2 {p : Program} {l : Launch} {e : Env} {s : State} {m : MethodId} {args : Array Value} {below : List Frame} {meth : Method} {c : Code} {E : Ev} (hL : ∀ k, fxM k = true → k ∈ eL E) {a1 : Nat} {n1 : Nat} {a2 : Nat} {n2 : Nat} (hm1 : a1 ∈ eL E) (ht1 : ty a1 = 10000 + n1) (hn1 : n1 < 10000) (hm2 : a2 ∈ eL E) (ht2 : ty a2 = 10000 + n2) (hn2 : n2 < 10000) {sz : Nat} {res : St} (X : CX p s m args c E RX10 cX10_copies 3 (Af E sz)) (hr : meth.sig.returnType = none) (hlk : meth.locks = false) : ∀ (n : Nat) (y2 : Int32) (st : St) (H : Heap) (locs : List Loc), fX10_copies_L2 a1 n1 a2 n2  n y2 st = some res → Gd E st (Af E sz) s H locs → ∀ ls : Array Slot, lv_has ls 3 [(0, .ref (eq E a1)), (1, .ref (eq E a2)), (2, .int y2)] → W p l e (rmk 0) s m args below meth c H locs 0 0 (MQ below (QWv E res sz) args s 0 0 (Af E sz)) (F0 m 2 ls []) := by
  have hx := X.1.1
  have hb := X.1.2.1
  intro n
  induction n with
  | zero =>
    intro y2 st H locs hf G ls hl
    cases (show (none : Option St) = some res from hf)
  | succ n ih =>
    intro y2 st H locs hf G ls hl
    rw [fX10_copies_L2] at hf
    refine lv_iload_n hx hb dX10_copies_2 rfl (lv_at hl 2 rfl) ?_
    refine lv_aload_n hx hb dX10_copies_3 rfl (lv_at hl 0 rfl) ?_
    refine ia_len (k := a1) (n := n1) X G hm1 ht1 hn1 rfl dX10_copies_4 ?_
    refine lv_icmp_ge (tgt := 20) hx hb dX10_copies_5 (by decide) (fun c1 => ?_) (fun c1 => ?_)
    · have hf := it_t hf c1
      exact rtWv X hlk G hr (so_i hf) dX10_copies_20
    · have hf := it_f hf c1
      refine lv_aload_n hx hb dX10_copies_8 rfl (lv_at hl 1 rfl) ?_
      refine lv_iload_n hx hb dX10_copies_9 rfl (lv_at hl 2 rfl) ?_
      refine lv_aload_n hx hb dX10_copies_10 rfl (lv_at hl 0 rfl) ?_
      refine lv_iload_n hx hb dX10_copies_11 rfl (lv_at hl 2 rfl) ?_
      obtain ⟨h2, hf⟩ := gd_s hf
      refine ia_ld (k := a1) (n := n1) X G hm1 ht1 hn1 (ix_in h2) dX10_copies_12 ?_
      obtain ⟨h3, hf⟩ := gd_s hf
      refine ia_st (k := a2) (n := n2) X G hm2 ht2 hn2 (ix_in h3) dX10_copies_13 (fun s4 es4 H locs G => ?_)
      have hf := nm_s hf s4 es4
      obtain ⟨x5, ex5⟩ : ∃ y : Int32, y = (y2 + (1 : Int32)) := ⟨_, rfl⟩
      have hf := nm_s hf x5 ex5
      refine lv_iinc (k := 2) (v := x5) (lv' := [(2, .int x5), (0, .ref (eq E a1)), (1, .ref (eq E a2))]) hx hb dX10_copies_14 hl rfl (by rw [ex5]; rfl) (by decide) rfl (fun ls hl => ?_)
      refine lv_goto (tgt := 2) hx hb dX10_copies_17 (by decide) ?_
      exact ih x5 s4 _ _ hf G _ (lv_sub hl [1, 2, 0] rfl)
def fX10_copies (a1 : Nat) (n1 : Nat) (a2 : Nat) (n2 : Nat) (st : St) : Option St := fX10_copies_L2 a1 n1 a2 n2 10000 (0 : Int32) st
set_option maxRecDepth 100000 in
theorem tX10_copies (l : Launch) (E : Ev) (st : St) (sz : Nat) (hL : ∀ k, fxM k = true → k ∈ eL E) {a1 : Nat} {n1 : Nat} {a2 : Nat} {n2 : Nat} (hm1 : a1 ∈ eL E) (ht1 : ty a1 = 10000 + n1) (hn1 : n1 < 10000) (hm2 : a2 ∈ eL E) (ht2 : ty a2 = 10000 + n2) (hn2 : n2 < 10000)  {res : St} (hf : fX10_copies a1 n1 a2 n2  st = some res) : Met l yX10_copies (.code yX10_copies cX10_copies 3 none :: uW) (rmk 0) (va_Pc [.ref (eq E a1), .ref (eq E a2)] (Pre E st sz)) (QWv E res sz) 0 0 (Af E sz) := by
  refine Met_in (by decide) (Nat.le_of_ble_eq_true rfl) ?_
  intro p e s m below meth c X hr hlk hz G ls hl
  have hx := X.1.1
  have hb := X.1.2.1
  have hl : lv_has ls 3 [(0, .ref (eq E a1)), (1, .ref (eq E a2))] := hl
  unfold fX10_copies at hf
  refine lv_iconst (v := (0 : Int32)) hx hb dX10_copies_0 (by decide) ?_
  refine lv_istore_n (lv' := [(2, .int (0 : Int32)), (0, .ref (eq E a1)), (1, .ref (eq E a2))]) hx hb dX10_copies_1 rfl hl (by decide) rfl (fun ls hl => ?_)
  exact wX10_copies_L2 hL hm1 ht1 hn1 hm2 ht2 hn2 X hr hlk 10000 (0 : Int32) st _ _ hf G _ (lv_sub hl [1, 2, 0] rfl)
def fX10_goesOn_B63 (z0 : Int32) (st : St) : Option (Int32 × St) := nm (ui st 500 30 ((st.1 500 30) + (1 : Int32))) (fun s1 => gd (bz z0) (some (z0, s1)))
set_option maxRecDepth 100000 in
theorem wX10_goesOn_B63 {p : Program} {l : Launch} {e : Env} {s : State} {m : MethodId} {args : Array Value} {below : List Frame} {meth : Method} {c : Code} {E : Ev} (hL : ∀ k, fxM k = true → k ∈ eL E) {sz : Nat} {res : (Int32 × St)} (X : CX p s m args c E RX10 cX10_goesOn 2 (Af E sz)) (hr : meth.sig.returnType = (some .boolean)) (hlk : meth.locks = false) : ∀ (z0 : Int32) (st : St) (H : Heap) (locs : List Loc), fX10_goesOn_B63   z0 st = some res → Gd E st (Af E sz) s H locs → ∀ ls : Array Slot, lv_has ls 2 [(0, .ref (eq E 500))] → W p l e (rmk 2) s m args below meth c H locs 0 0 (MQ below (QWi E res.2 sz res.1) args s 0 0 (Af E sz)) (F0 m 63 ls [.int z0]) := by
  have hx := X.1.1
  have hb := X.1.2.1
  intro z0 st H locs hf G ls hl
  unfold fX10_goesOn_B63 at hf
  refine lv_istore_n (lv' := [(1, .int z0), (0, .ref (eq E 500))]) hx hb dX10_goesOn_63 rfl hl (by decide) rfl (fun ls hl => ?_)
  refine lv_aload_n hx hb dX10_goesOn_64 rfl (lv_at hl 1 rfl) ?_
  refine lv_dup hx hb dX10_goesOn_65 rfl ?_
  refine gf10 X G (hL 500 rfl) rfl 30 (by decide) rfl kf_X10_190 iwX10 dX10_goesOn_66 ?_
  refine lv_iconst (v := (1 : Int32)) hx hb dX10_goesOn_69 (by decide) ?_
  refine lv_iadd hx hb dX10_goesOn_70 ?_
  refine pf10 X G (hL 500 rfl) rfl 30 (by decide) ps10_30 uio kf_X10_190 iwX10 rfl (ty := .int) (by decide +kernel) rfl rfl dX10_goesOn_71 (fun s1 es1 H locs G => ?_)
  have hf := nm_s hf s1 es1
  refine lv_iload_n hx hb dX10_goesOn_74 rfl (lv_at hl 0 rfl) ?_
  obtain ⟨h2, hf⟩ := gd_s hf
  exact rtWz X hlk G hr (bz_n h2) (so_i hf) dX10_goesOn_75
def fX10_goesOn_B62 (st : St) : Option (Int32 × St) := fX10_goesOn_B63 (0 : Int32) st
set_option maxRecDepth 100000 in
theorem wX10_goesOn_B62 {p : Program} {l : Launch} {e : Env} {s : State} {m : MethodId} {args : Array Value} {below : List Frame} {meth : Method} {c : Code} {E : Ev} (hL : ∀ k, fxM k = true → k ∈ eL E) {sz : Nat} {res : (Int32 × St)} (X : CX p s m args c E RX10 cX10_goesOn 2 (Af E sz)) (hr : meth.sig.returnType = (some .boolean)) (hlk : meth.locks = false) : ∀  (st : St) (H : Heap) (locs : List Loc), fX10_goesOn_B62    st = some res → Gd E st (Af E sz) s H locs → ∀ ls : Array Slot, lv_has ls 2 [(0, .ref (eq E 500))] → W p l e (rmk 2) s m args below meth c H locs 0 0 (MQ below (QWi E res.2 sz res.1) args s 0 0 (Af E sz)) (F0 m 62 ls []) := by
  have hx := X.1.1
  have hb := X.1.2.1
  intro  st H locs hf G ls hl
  unfold fX10_goesOn_B62 at hf
  refine lv_iconst (v := (0 : Int32)) hx hb dX10_goesOn_62 (by decide) ?_
  exact wX10_goesOn_B63 hL X hr hlk (0 : Int32) st _ _ hf G _ (lv_sub hl [0] rfl)
def fX10_goesOn_B40 (st : St) : Option (Int32 × St) := if (st.1 500 31) = 0 then (if (st.1 500 29) ≤ (st.1 500 30) then (fX10_goesOn_B62 st) else (fX10_goesOn_B63 (1 : Int32) st)) else (fX10_goesOn_B62 st)
set_option maxRecDepth 100000 in
theorem wX10_goesOn_B40 {p : Program} {l : Launch} {e : Env} {s : State} {m : MethodId} {args : Array Value} {below : List Frame} {meth : Method} {c : Code} {E : Ev} (hL : ∀ k, fxM k = true → k ∈ eL E) {sz : Nat} {res : (Int32 × St)} (X : CX p s m args c E RX10 cX10_goesOn 2 (Af E sz)) (hr : meth.sig.returnType = (some .boolean)) (hlk : meth.locks = false) : ∀  (st : St) (H : Heap) (locs : List Loc), fX10_goesOn_B40    st = some res → Gd E st (Af E sz) s H locs → ∀ ls : Array Slot, lv_has ls 2 [(0, .ref (eq E 500))] → W p l e (rmk 2) s m args below meth c H locs 0 0 (MQ below (QWi E res.2 sz res.1) args s 0 0 (Af E sz)) (F0 m 40 ls []) := by
  have hx := X.1.1
  have hb := X.1.2.1
  intro  st H locs hf G ls hl
  unfold fX10_goesOn_B40 at hf
  refine lv_aload_n hx hb dX10_goesOn_40 rfl (lv_at hl 0 rfl) ?_
  refine gf10 X G (hL 500 rfl) rfl 31 (by decide) rfl kf_X10_187 iwX10 dX10_goesOn_41 ?_
  refine lv_if_ne (tgt := 62) hx hb dX10_goesOn_44 (by decide) (fun c1 => ?_) (fun c1 => ?_)
  · have hf := it_f hf c1
    exact wX10_goesOn_B62 hL X hr hlk st _ _ hf G _ (lv_sub hl [0] rfl)
  · have hf := it_t hf c1
    refine lv_aload_n hx hb dX10_goesOn_47 rfl (lv_at hl 0 rfl) ?_
    refine gf10 X G (hL 500 rfl) rfl 30 (by decide) rfl kf_X10_190 iwX10 dX10_goesOn_48 ?_
    refine lv_aload_n hx hb dX10_goesOn_51 rfl (lv_at hl 0 rfl) ?_
    refine gf10 X G (hL 500 rfl) rfl 29 (by decide) rfl kf_X10_160 iwX10 dX10_goesOn_52 ?_
    refine lv_icmp_ge (tgt := 62) hx hb dX10_goesOn_55 (by decide) (fun c2 => ?_) (fun c2 => ?_)
    · have hf := it_t hf c2
      exact wX10_goesOn_B62 hL X hr hlk st _ _ hf G _ (lv_sub hl [0] rfl)
    · have hf := it_f hf c2
      refine lv_iconst (v := (1 : Int32)) hx hb dX10_goesOn_58 (by decide) ?_
      refine lv_goto (tgt := 63) hx hb dX10_goesOn_59 (by decide) ?_
      exact wX10_goesOn_B63 hL X hr hlk (1 : Int32) st _ _ hf G _ (lv_sub hl [0] rfl)
def fX10_goesOn (st : St) : Option (Int32 × St) := br (fX10_blanks st) (fun s2 => if (s2.1 500 31) = 0 then (if (s2.1 500 29) ≤ (s2.1 500 30) then (fX10_goesOn_B40 s2) else (br (fX10_sign s2) (fun x6 => if x6 = (59 : Int32) then (fX10_goesOn_B40 s2) else (br (fX10_fails (0 : Int32) (s2.1 500 30) s2) (fun s9 => fX10_goesOn_B40 s9))))) else (fX10_goesOn_B40 s2))
set_option maxRecDepth 100000 in
theorem tX10_goesOn (l : Launch) (E : Ev) (st : St) (sz : Nat) (hL : ∀ k, fxM k = true → k ∈ eL E)  {res : (Int32 × St)} (hf : fX10_goesOn   st = some res) : Met l yX10_goesOn (.code yX10_goesOn cX10_goesOn 2 (some .boolean) :: uW) (rmk 2) (va_Pc [.ref (eq E 500)] (Pre E st sz)) (QWi E res.2 sz res.1) 0 0 (Af E sz) := by
  refine Met_in (by decide) (Nat.le_of_ble_eq_true rfl) ?_
  intro p e s m below meth c X hr hlk hz G ls hl
  have hx := X.1.1
  have hb := X.1.2.1
  have hl : lv_has ls 2 [(0, .ref (eq E 500))] := hl
  unfold fX10_goesOn at hf
  refine lv_aload_n hx hb dX10_goesOn_0 rfl (lv_at hl 0 rfl) ?_
  obtain ⟨s2, h1, hf⟩ := br_s hf
  refine cVWv (As := []) (rest := []) X G kc_X10_210 (tX10_blanks l E st _ hL   h1) (rcv X G (hL 500 rfl) (cO10 rfl) rfl) rfl rfl (rmk_le (by omega) (by decide)) rfl hl.1 rfl (Nat.le_of_ble_eq_true rfl) dX10_goesOn_1 ⟨Nat.zero_le _, Nat.zero_le _⟩ (fun H locs G => ?_)
  refine lv_aload_n hx hb dX10_goesOn_4 rfl (lv_at hl 0 rfl) ?_
  refine gf10 X G (hL 500 rfl) rfl 31 (by decide) rfl kf_X10_187 iwX10 dX10_goesOn_5 ?_
  refine lv_if_ne (tgt := 40) hx hb dX10_goesOn_8 (by decide) (fun c3 => ?_) (fun c3 => ?_)
  · have hf := it_f hf c3
    exact wX10_goesOn_B40 hL X hr hlk s2 _ _ hf G _ (lv_sub hl [0] rfl)
  · have hf := it_t hf c3
    refine lv_aload_n hx hb dX10_goesOn_11 rfl (lv_at hl 0 rfl) ?_
    refine gf10 X G (hL 500 rfl) rfl 30 (by decide) rfl kf_X10_190 iwX10 dX10_goesOn_12 ?_
    refine lv_aload_n hx hb dX10_goesOn_15 rfl (lv_at hl 0 rfl) ?_
    refine gf10 X G (hL 500 rfl) rfl 29 (by decide) rfl kf_X10_160 iwX10 dX10_goesOn_16 ?_
    refine lv_icmp_ge (tgt := 40) hx hb dX10_goesOn_19 (by decide) (fun c4 => ?_) (fun c4 => ?_)
    · have hf := it_t hf c4
      exact wX10_goesOn_B40 hL X hr hlk s2 _ _ hf G _ (lv_sub hl [0] rfl)
    · have hf := it_f hf c4
      refine lv_aload_n hx hb dX10_goesOn_22 rfl (lv_at hl 0 rfl) ?_
      obtain ⟨x6, h5, hf⟩ := br_s hf
      refine cVRi (As := []) (rest := []) X G kc_X10_193 (tX10_sign l E s2 _ hL   h5) (rcv X G (hL 500 rfl) (cO10 rfl) rfl) rfl rfl (rmk_le (by omega) (by decide)) rfl hl.1 rfl (Nat.le_of_ble_eq_true rfl) dX10_goesOn_23 ⟨Nat.zero_le _, Nat.zero_le _⟩ ?_
      refine lv_bipush (v := (59 : Int32)) hx hb dX10_goesOn_26 (by decide) ?_
      refine lv_icmp_eq (tgt := 40) hx hb dX10_goesOn_28 (by decide) (fun c7 => ?_) (fun c7 => ?_)
      · have hf := it_t hf c7
        exact wX10_goesOn_B40 hL X hr hlk s2 _ _ hf G _ (lv_sub hl [0] rfl)
      · have hf := it_f hf c7
        refine lv_aload_n hx hb dX10_goesOn_31 rfl (lv_at hl 0 rfl) ?_
        refine lv_iconst (v := (0 : Int32)) hx hb dX10_goesOn_32 (by decide) ?_
        refine lv_aload_n hx hb dX10_goesOn_33 rfl (lv_at hl 0 rfl) ?_
        refine gf10 X G (hL 500 rfl) rfl 30 (by decide) rfl kf_X10_190 iwX10 dX10_goesOn_34 ?_
        obtain ⟨s9, h8, hf⟩ := br_s hf
        refine cVWv (As := [.int (0 : Int32), .int (s2.1 500 30)]) (rest := []) X G kc_X10_226 (tX10_fails l E s2 _ hL  (0 : Int32) (s2.1 500 30) h8) (rcv X G (hL 500 rfl) (cO10 rfl) rfl) rfl rfl (rmk_le (by omega) (by decide)) rfl hl.1 rfl (Nat.le_of_ble_eq_true rfl) dX10_goesOn_37 ⟨Nat.zero_le _, Nat.zero_le _⟩ (fun H locs G => ?_)
        exact wX10_goesOn_B40 hL X hr hlk s9 _ _ hf G _ (lv_sub hl [0] rfl)
def fX10_starts (st : St) : Option St := nm (ui st 500 30 (0 : Int32)) (fun s1 => nm (ui s1 500 31 (0 : Int32)) (fun s2 => nm (ui s2 500 34 (0 : Int32)) (fun s3 => nm (ui s3 500 35 (0 : Int32)) (fun s4 => nm (ui s4 500 36 (0 : Int32)) (fun s5 => some s5)))))
set_option maxRecDepth 100000 in
theorem tX10_starts (l : Launch) (E : Ev) (st : St) (sz : Nat) (hL : ∀ k, fxM k = true → k ∈ eL E)  {res : St} (hf : fX10_starts   st = some res) : Met l yX10_starts (.code yX10_starts cX10_starts 1 none :: uW) (rmk 0) (va_Pc [.ref (eq E 500)] (Pre E st sz)) (QWv E res sz) 0 0 (Af E sz) := by
  refine Met_in (by decide) (Nat.le_of_ble_eq_true rfl) ?_
  intro p e s m below meth c X hr hlk hz G ls hl
  have hx := X.1.1
  have hb := X.1.2.1
  have hl : lv_has ls 1 [(0, .ref (eq E 500))] := hl
  unfold fX10_starts at hf
  refine lv_aload_n hx hb dX10_starts_0 rfl (lv_at hl 0 rfl) ?_
  refine lv_iconst (v := (0 : Int32)) hx hb dX10_starts_1 (by decide) ?_
  refine pf10 X G (hL 500 rfl) rfl 30 (by decide) ps10_30 uio kf_X10_190 iwX10 rfl (ty := .int) (by decide +kernel) rfl rfl dX10_starts_2 (fun s1 es1 H locs G => ?_)
  have hf := nm_s hf s1 es1
  refine lv_aload_n hx hb dX10_starts_5 rfl (lv_at hl 0 rfl) ?_
  refine lv_iconst (v := (0 : Int32)) hx hb dX10_starts_6 (by decide) ?_
  refine pf10 X G (hL 500 rfl) rfl 31 (by decide) ps10_31 uio kf_X10_187 iwX10 rfl (ty := .int) (by decide +kernel) rfl rfl dX10_starts_7 (fun s2 es2 H locs G => ?_)
  have hf := nm_s hf s2 es2
  refine lv_aload_n hx hb dX10_starts_10 rfl (lv_at hl 0 rfl) ?_
  refine lv_iconst (v := (0 : Int32)) hx hb dX10_starts_11 (by decide) ?_
  refine pf10 X G (hL 500 rfl) rfl 34 (by decide) ps10_34 uio kf_X10_220 iwX10 rfl (ty := .int) (by decide +kernel) rfl rfl dX10_starts_12 (fun s3 es3 H locs G => ?_)
  have hf := nm_s hf s3 es3
  refine lv_aload_n hx hb dX10_starts_15 rfl (lv_at hl 0 rfl) ?_
  refine lv_iconst (v := (0 : Int32)) hx hb dX10_starts_16 (by decide) ?_
  refine pf10 X G (hL 500 rfl) rfl 35 (by decide) ps10_35 uio kf_X10_261 iwX10 rfl (ty := .int) (by decide +kernel) rfl rfl dX10_starts_17 (fun s4 es4 H locs G => ?_)
  have hf := nm_s hf s4 es4
  refine lv_aload_n hx hb dX10_starts_20 rfl (lv_at hl 0 rfl) ?_
  refine lv_iconst (v := (0 : Int32)) hx hb dX10_starts_21 (by decide) ?_
  refine pf10 X G (hL 500 rfl) rfl 36 (by decide) ps10_36 uio kf_X10_223 iwX10 rfl (ty := .int) (by decide +kernel) rfl rfl dX10_starts_22 (fun s5 es5 H locs G => ?_)
  have hf := nm_s hf s5 es5
  exact rtWv X hlk G hr (so_i hf) dX10_starts_25
