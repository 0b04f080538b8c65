theorem dX10_canCall_0 : decode cX10_canCall 0 = .ok (.aload_n 0, 1) := by decide +kernel
theorem dX10_canCall_1 : decode cX10_canCall 1 = .ok (.iload_n 2, 1) := by decide +kernel
theorem dX10_canCall_2 : decode cX10_canCall 2 = .ok (.invokevirtual 371, 3) := by decide +kernel
theorem dX10_canCall_5 : decode cX10_canCall 5 = .ok (.ifCond .ne 51, 3) := by decide +kernel
theorem dX10_canCall_8 : decode cX10_canCall 8 = .ok (.aload_n 0, 1) := by decide +kernel
theorem dX10_canCall_9 : decode cX10_canCall 9 = .ok (.getfield 31, 3) := by decide +kernel
theorem dX10_canCall_12 : decode cX10_canCall 12 = .ok (.iload_n 1, 1) := by decide +kernel
theorem dX10_canCall_13 : decode cX10_canCall 13 = .ok (.iaload, 1) := by decide +kernel
theorem dX10_canCall_14 : decode cX10_canCall 14 = .ok (.iload_n 2, 1) := by decide +kernel
theorem dX10_canCall_15 : decode cX10_canCall 15 = .ok (.if_icmp .eq 21, 3) := by decide +kernel
theorem dX10_canCall_18 : decode cX10_canCall 18 = .ok (.aload_n 0, 1) := by decide +kernel
theorem dX10_canCall_19 : decode cX10_canCall 19 = .ok (.getfield 25, 3) := by decide +kernel
theorem dX10_canCall_22 : decode cX10_canCall 22 = .ok (.aload_n 0, 1) := by decide +kernel
theorem dX10_canCall_23 : decode cX10_canCall 23 = .ok (.getfield 31, 3) := by decide +kernel
theorem dX10_canCall_26 : decode cX10_canCall 26 = .ok (.iload_n 1, 1) := by decide +kernel
theorem dX10_canCall_27 : decode cX10_canCall 27 = .ok (.iaload, 1) := by decide +kernel
theorem dX10_canCall_28 : decode cX10_canCall 28 = .ok (.iaload, 1) := by decide +kernel
theorem dX10_canCall_29 : decode cX10_canCall 29 = .ok (.iload_n 2, 1) := by decide +kernel
theorem dX10_canCall_30 : decode cX10_canCall 30 = .ok (.invokestatic 156, 3) := by decide +kernel
theorem dX10_canCall_33 : decode cX10_canCall 33 = .ok (.ifCond .eq 23, 3) := by decide +kernel
theorem dX10_canCall_36 : decode cX10_canCall 36 = .ok (.aload_n 0, 1) := by decide +kernel
theorem dX10_canCall_37 : decode cX10_canCall 37 = .ok (.getfield 28, 3) := by decide +kernel
theorem dX10_canCall_40 : decode cX10_canCall 40 = .ok (.iload_n 2, 1) := by decide +kernel
theorem dX10_canCall_41 : decode cX10_canCall 41 = .ok (.iaload, 1) := by decide +kernel
theorem dX10_canCall_42 : decode cX10_canCall 42 = .ok (.aload_n 0, 1) := by decide +kernel
theorem dX10_canCall_43 : decode cX10_canCall 43 = .ok (.getfield 9, 3) := by decide +kernel
theorem dX10_canCall_46 : decode cX10_canCall 46 = .ok (.bipush 6, 2) := by decide +kernel
theorem dX10_canCall_48 : decode cX10_canCall 48 = .ok (.iaload, 1) := by decide +kernel
theorem dX10_canCall_49 : decode cX10_canCall 49 = .ok (.if_icmp .eq 7, 3) := by decide +kernel
theorem dX10_canCall_52 : decode cX10_canCall 52 = .ok (.iconst 1, 1) := by decide +kernel
theorem dX10_canCall_53 : decode cX10_canCall 53 = .ok (.goto 4, 3) := by decide +kernel
theorem dX10_canCall_56 : decode cX10_canCall 56 = .ok (.iconst 0, 1) := by decide +kernel
theorem dX10_canCall_57 : decode cX10_canCall 57 = .ok (.ireturn, 1) := by decide +kernel
theorem dX10_calls_0 : decode cX10_calls 0 = .ok (.aload_n 0, 1) := by decide +kernel
theorem dX10_calls_1 : decode cX10_calls 1 = .ok (.iload_n 1, 1) := by decide +kernel
theorem dX10_calls_2 : decode cX10_calls 2 = .ok (.iload_n 2, 1) := by decide +kernel
theorem dX10_calls_3 : decode cX10_calls 3 = .ok (.invokevirtual 377, 3) := by decide +kernel
theorem dX10_calls_6 : decode cX10_calls 6 = .ok (.istore_n 3, 1) := by decide +kernel
theorem dX10_calls_7 : decode cX10_calls 7 = .ok (.aload_n 0, 1) := by decide +kernel
theorem dX10_calls_8 : decode cX10_calls 8 = .ok (.getfield 31, 3) := by decide +kernel
theorem dX10_calls_11 : decode cX10_calls 11 = .ok (.iload_n 1, 1) := by decide +kernel
theorem dX10_calls_12 : decode cX10_calls 12 = .ok (.iload_n 2, 1) := by decide +kernel
theorem dX10_calls_13 : decode cX10_calls 13 = .ok (.iastore, 1) := by decide +kernel
theorem dX10_calls_14 : decode cX10_calls 14 = .ok (.aload_n 0, 1) := by decide +kernel
theorem dX10_calls_15 : decode cX10_calls 15 = .ok (.getfield 28, 3) := by decide +kernel
theorem dX10_calls_18 : decode cX10_calls 18 = .ok (.iload_n 2, 1) := by decide +kernel
theorem dX10_calls_19 : decode cX10_calls 19 = .ok (.aload_n 0, 1) := by decide +kernel
theorem dX10_calls_20 : decode cX10_calls 20 = .ok (.getfield 9, 3) := by decide +kernel
theorem dX10_calls_23 : decode cX10_calls 23 = .ok (.bipush 6, 2) := by decide +kernel
theorem dX10_calls_25 : decode cX10_calls 25 = .ok (.iaload, 1) := by decide +kernel
theorem dX10_calls_26 : decode cX10_calls 26 = .ok (.iastore, 1) := by decide +kernel
theorem dX10_calls_27 : decode cX10_calls 27 = .ok (.aload_n 0, 1) := by decide +kernel
theorem dX10_calls_28 : decode cX10_calls 28 = .ok (.getfield 13, 3) := by decide +kernel
theorem dX10_calls_31 : decode cX10_calls 31 = .ok (.iload_n 2, 1) := by decide +kernel
theorem dX10_calls_32 : decode cX10_calls 32 = .ok (.dup2, 1) := by decide +kernel
theorem dX10_calls_33 : decode cX10_calls 33 = .ok (.iaload, 1) := by decide +kernel
theorem dX10_calls_34 : decode cX10_calls 34 = .ok (.iload_n 3, 1) := by decide +kernel
theorem dX10_calls_35 : decode cX10_calls 35 = .ok (.isub, 1) := by decide +kernel
theorem dX10_calls_36 : decode cX10_calls 36 = .ok (.iastore, 1) := by decide +kernel
theorem dX10_calls_37 : decode cX10_calls 37 = .ok (.aload_n 0, 1) := by decide +kernel
theorem dX10_calls_38 : decode cX10_calls 38 = .ok (.getfield 37, 3) := by decide +kernel
theorem dX10_calls_41 : decode cX10_calls 41 = .ok (.iload_n 1, 1) := by decide +kernel
theorem dX10_calls_42 : decode cX10_calls 42 = .ok (.dup2, 1) := by decide +kernel
theorem dX10_calls_43 : decode cX10_calls 43 = .ok (.iaload, 1) := by decide +kernel
theorem dX10_calls_44 : decode cX10_calls 44 = .ok (.iload_n 3, 1) := by decide +kernel
theorem dX10_calls_45 : decode cX10_calls 45 = .ok (.iadd, 1) := by decide +kernel
theorem dX10_calls_46 : decode cX10_calls 46 = .ok (.iastore, 1) := by decide +kernel
theorem dX10_calls_47 : decode cX10_calls 47 = .ok (.iload_n 3, 1) := by decide +kernel
theorem dX10_calls_48 : decode cX10_calls 48 = .ok (.ireturn, 1) := by decide +kernel
theorem dX10_sumOf_0 : decode cX10_sumOf 0 = .ok (.aload_n 0, 1) := by decide +kernel
theorem dX10_sumOf_1 : decode cX10_sumOf 1 = .ok (.getfield 28, 3) := by decide +kernel
theorem dX10_sumOf_4 : decode cX10_sumOf 4 = .ok (.iload_n 2, 1) := by decide +kernel
theorem dX10_sumOf_5 : decode cX10_sumOf 5 = .ok (.iaload, 1) := by decide +kernel
theorem dX10_sumOf_6 : decode cX10_sumOf 6 = .ok (.iconst (-1), 1) := by decide +kernel
theorem dX10_sumOf_7 : decode cX10_sumOf 7 = .ok (.if_icmp .ne 8, 3) := by decide +kernel
theorem dX10_sumOf_10 : decode cX10_sumOf 10 = .ok (.bipush 99, 2) := by decide +kernel
theorem dX10_sumOf_12 : decode cX10_sumOf 12 = .ok (.goto 17, 3) := by decide +kernel
theorem dX10_sumOf_15 : decode cX10_sumOf 15 = .ok (.aload_n 0, 1) := by decide +kernel
theorem dX10_sumOf_16 : decode cX10_sumOf 16 = .ok (.getfield 9, 3) := by decide +kernel
theorem dX10_sumOf_19 : decode cX10_sumOf 19 = .ok (.bipush 6, 2) := by decide +kernel
theorem dX10_sumOf_21 : decode cX10_sumOf 21 = .ok (.iaload, 1) := by decide +kernel
theorem dX10_sumOf_22 : decode cX10_sumOf 22 = .ok (.aload_n 0, 1) := by decide +kernel
theorem dX10_sumOf_23 : decode cX10_sumOf 23 = .ok (.getfield 28, 3) := by decide +kernel
theorem dX10_sumOf_26 : decode cX10_sumOf 26 = .ok (.iload_n 2, 1) := by decide +kernel
theorem dX10_sumOf_27 : decode cX10_sumOf 27 = .ok (.iaload, 1) := by decide +kernel
theorem dX10_sumOf_28 : decode cX10_sumOf 28 = .ok (.isub, 1) := by decide +kernel
theorem dX10_sumOf_29 : decode cX10_sumOf 29 = .ok (.istore_n 3, 1) := by decide +kernel
theorem dX10_sumOf_30 : decode cX10_sumOf 30 = .ok (.aload_n 0, 1) := by decide +kernel
theorem dX10_sumOf_31 : decode cX10_sumOf 31 = .ok (.getfield 120, 3) := by decide +kernel
theorem dX10_sumOf_34 : decode cX10_sumOf 34 = .ok (.iconst 0, 1) := by decide +kernel
theorem dX10_sumOf_35 : decode cX10_sumOf 35 = .ok (.iload_n 1, 1) := by decide +kernel
theorem dX10_sumOf_36 : decode cX10_sumOf 36 = .ok (.i2l, 1) := by decide +kernel
theorem dX10_sumOf_37 : decode cX10_sumOf 37 = .ok (.lastore, 1) := by decide +kernel
theorem dX10_sumOf_38 : decode cX10_sumOf 38 = .ok (.aload_n 0, 1) := by decide +kernel
theorem dX10_sumOf_39 : decode cX10_sumOf 39 = .ok (.getfield 120, 3) := by decide +kernel
theorem dX10_sumOf_42 : decode cX10_sumOf 42 = .ok (.iconst 1, 1) := by decide +kernel
theorem dX10_sumOf_43 : decode cX10_sumOf 43 = .ok (.iload_n 2, 1) := by decide +kernel
theorem dX10_sumOf_44 : decode cX10_sumOf 44 = .ok (.i2l, 1) := by decide +kernel
theorem dX10_sumOf_45 : decode cX10_sumOf 45 = .ok (.lastore, 1) := by decide +kernel
theorem dX10_sumOf_46 : decode cX10_sumOf 46 = .ok (.aload_n 0, 1) := by decide +kernel
theorem dX10_sumOf_47 : decode cX10_sumOf 47 = .ok (.getfield 120, 3) := by decide +kernel
theorem dX10_sumOf_50 : decode cX10_sumOf 50 = .ok (.iconst 2, 1) := by decide +kernel
theorem dX10_sumOf_51 : decode cX10_sumOf 51 = .ok (.aload_n 0, 1) := by decide +kernel
theorem dX10_sumOf_52 : decode cX10_sumOf 52 = .ok (.getfield 13, 3) := by decide +kernel
theorem dX10_sumOf_55 : decode cX10_sumOf 55 = .ok (.iload_n 2, 1) := by decide +kernel
theorem dX10_sumOf_56 : decode cX10_sumOf 56 = .ok (.iaload, 1) := by decide +kernel
theorem dX10_sumOf_57 : decode cX10_sumOf 57 = .ok (.i2l, 1) := by decide +kernel
theorem dX10_sumOf_58 : decode cX10_sumOf 58 = .ok (.lastore, 1) := by decide +kernel
theorem dX10_sumOf_59 : decode cX10_sumOf 59 = .ok (.aload_n 0, 1) := by decide +kernel
theorem dX10_sumOf_60 : decode cX10_sumOf 60 = .ok (.getfield 120, 3) := by decide +kernel
theorem dX10_sumOf_63 : decode cX10_sumOf 63 = .ok (.iconst 3, 1) := by decide +kernel
theorem dX10_sumOf_64 : decode cX10_sumOf 64 = .ok (.aload_n 0, 1) := by decide +kernel
theorem dX10_sumOf_65 : decode cX10_sumOf 65 = .ok (.getfield 16, 3) := by decide +kernel
theorem dX10_sumOf_68 : decode cX10_sumOf 68 = .ok (.iload_n 2, 1) := by decide +kernel
theorem dX10_sumOf_69 : decode cX10_sumOf 69 = .ok (.iaload, 1) := by decide +kernel
theorem dX10_sumOf_70 : decode cX10_sumOf 70 = .ok (.i2l, 1) := by decide +kernel
theorem dX10_sumOf_71 : decode cX10_sumOf 71 = .ok (.lastore, 1) := by decide +kernel
theorem dX10_sumOf_72 : decode cX10_sumOf 72 = .ok (.aload_n 0, 1) := by decide +kernel
theorem dX10_sumOf_73 : decode cX10_sumOf 73 = .ok (.getfield 120, 3) := by decide +kernel
theorem dX10_sumOf_76 : decode cX10_sumOf 76 = .ok (.iconst 4, 1) := by decide +kernel
theorem dX10_sumOf_77 : decode cX10_sumOf 77 = .ok (.aload_n 0, 1) := by decide +kernel
theorem dX10_sumOf_78 : decode cX10_sumOf 78 = .ok (.getfield 19, 3) := by decide +kernel
theorem dX10_sumOf_81 : decode cX10_sumOf 81 = .ok (.iload_n 2, 1) := by decide +kernel
theorem dX10_sumOf_82 : decode cX10_sumOf 82 = .ok (.iaload, 1) := by decide +kernel
theorem dX10_sumOf_83 : decode cX10_sumOf 83 = .ok (.i2l, 1) := by decide +kernel
theorem dX10_sumOf_84 : decode cX10_sumOf 84 = .ok (.lastore, 1) := by decide +kernel
theorem dX10_sumOf_85 : decode cX10_sumOf 85 = .ok (.aload_n 0, 1) := by decide +kernel
theorem dX10_sumOf_86 : decode cX10_sumOf 86 = .ok (.getfield 120, 3) := by decide +kernel
theorem dX10_sumOf_89 : decode cX10_sumOf 89 = .ok (.iconst 5, 1) := by decide +kernel
theorem dX10_sumOf_90 : decode cX10_sumOf 90 = .ok (.aload_n 0, 1) := by decide +kernel
theorem dX10_sumOf_91 : decode cX10_sumOf 91 = .ok (.iload_n 1, 1) := by decide +kernel
theorem dX10_sumOf_92 : decode cX10_sumOf 92 = .ok (.iload_n 2, 1) := by decide +kernel
theorem dX10_sumOf_93 : decode cX10_sumOf 93 = .ok (.invokevirtual 377, 3) := by decide +kernel
theorem dX10_sumOf_96 : decode cX10_sumOf 96 = .ok (.i2l, 1) := by decide +kernel
theorem dX10_sumOf_97 : decode cX10_sumOf 97 = .ok (.lastore, 1) := by decide +kernel
theorem dX10_sumOf_98 : decode cX10_sumOf 98 = .ok (.aload_n 0, 1) := by decide +kernel
theorem dX10_sumOf_99 : decode cX10_sumOf 99 = .ok (.getfield 120, 3) := by decide +kernel
theorem dX10_sumOf_102 : decode cX10_sumOf 102 = .ok (.bipush 6, 2) := by decide +kernel
theorem dX10_sumOf_104 : decode cX10_sumOf 104 = .ok (.aload_n 0, 1) := by decide +kernel
theorem dX10_sumOf_105 : decode cX10_sumOf 105 = .ok (.getfield 34, 3) := by decide +kernel
theorem dX10_sumOf_108 : decode cX10_sumOf 108 = .ok (.iload_n 1, 1) := by decide +kernel
theorem dX10_sumOf_109 : decode cX10_sumOf 109 = .ok (.iaload, 1) := by decide +kernel
theorem dX10_sumOf_110 : decode cX10_sumOf 110 = .ok (.aload_n 0, 1) := by decide +kernel
theorem dX10_sumOf_111 : decode cX10_sumOf 111 = .ok (.getfield 37, 3) := by decide +kernel
theorem dX10_sumOf_114 : decode cX10_sumOf 114 = .ok (.iload_n 1, 1) := by decide +kernel
theorem dX10_sumOf_115 : decode cX10_sumOf 115 = .ok (.iaload, 1) := by decide +kernel
theorem dX10_sumOf_116 : decode cX10_sumOf 116 = .ok (.isub, 1) := by decide +kernel
theorem dX10_sumOf_117 : decode cX10_sumOf 117 = .ok (.i2l, 1) := by decide +kernel
theorem dX10_sumOf_118 : decode cX10_sumOf 118 = .ok (.lastore, 1) := by decide +kernel
theorem dX10_sumOf_119 : decode cX10_sumOf 119 = .ok (.aload_n 0, 1) := by decide +kernel
theorem dX10_sumOf_120 : decode cX10_sumOf 120 = .ok (.getfield 120, 3) := by decide +kernel
theorem dX10_sumOf_123 : decode cX10_sumOf 123 = .ok (.bipush 7, 2) := by decide +kernel
theorem dX10_sumOf_125 : decode cX10_sumOf 125 = .ok (.aload_n 0, 1) := by decide +kernel
theorem dX10_sumOf_126 : decode cX10_sumOf 126 = .ok (.getfield 31, 3) := by decide +kernel
theorem dX10_sumOf_129 : decode cX10_sumOf 129 = .ok (.iload_n 1, 1) := by decide +kernel
theorem dX10_sumOf_130 : decode cX10_sumOf 130 = .ok (.iaload, 1) := by decide +kernel
theorem dX10_sumOf_131 : decode cX10_sumOf 131 = .ok (.iload_n 2, 1) := by decide +kernel
theorem dX10_sumOf_132 : decode cX10_sumOf 132 = .ok (.if_icmp .ne 7, 3) := by decide +kernel
theorem dX10_sumOf_135 : decode cX10_sumOf 135 = .ok (.lconst 1, 1) := by decide +kernel
theorem dX10_sumOf_136 : decode cX10_sumOf 136 = .ok (.goto 4, 3) := by decide +kernel
theorem dX10_sumOf_139 : decode cX10_sumOf 139 = .ok (.lconst 0, 1) := by decide +kernel
theorem dX10_sumOf_140 : decode cX10_sumOf 140 = .ok (.lastore, 1) := by decide +kernel
theorem dX10_sumOf_141 : decode cX10_sumOf 141 = .ok (.aload_n 0, 1) := by decide +kernel
theorem dX10_sumOf_142 : decode cX10_sumOf 142 = .ok (.getfield 120, 3) := by decide +kernel
theorem dX10_sumOf_145 : decode cX10_sumOf 145 = .ok (.bipush 8, 2) := by decide +kernel
theorem dX10_sumOf_147 : decode cX10_sumOf 147 = .ok (.aload_n 0, 1) := by decide +kernel
theorem dX10_sumOf_148 : decode cX10_sumOf 148 = .ok (.getfield 25, 3) := by decide +kernel
theorem dX10_sumOf_151 : decode cX10_sumOf 151 = .ok (.iload_n 2, 1) := by decide +kernel
theorem dX10_sumOf_152 : decode cX10_sumOf 152 = .ok (.iaload, 1) := by decide +kernel
theorem dX10_sumOf_153 : decode cX10_sumOf 153 = .ok (.invokestatic 380, 3) := by decide +kernel
theorem dX10_sumOf_156 : decode cX10_sumOf 156 = .ok (.i2l, 1) := by decide +kernel
theorem dX10_sumOf_157 : decode cX10_sumOf 157 = .ok (.lastore, 1) := by decide +kernel
theorem dX10_sumOf_158 : decode cX10_sumOf 158 = .ok (.aload_n 0, 1) := by decide +kernel
theorem dX10_sumOf_159 : decode cX10_sumOf 159 = .ok (.getfield 120, 3) := by decide +kernel
theorem dX10_sumOf_162 : decode cX10_sumOf 162 = .ok (.bipush 9, 2) := by decide +kernel
theorem dX10_sumOf_164 : decode cX10_sumOf 164 = .ok (.iload_n 3, 1) := by decide +kernel
theorem dX10_sumOf_165 : decode cX10_sumOf 165 = .ok (.bipush 99, 2) := by decide +kernel
theorem dX10_sumOf_167 : decode cX10_sumOf 167 = .ok (.if_icmp .le 9, 3) := by decide +kernel
theorem dX10_sumOf_170 : decode cX10_sumOf 170 = .ok (.ldc2_w 383, 3) := by decide +kernel
theorem dX10_sumOf_173 : decode cX10_sumOf 173 = .ok (.goto 5, 3) := by decide +kernel
theorem dX10_sumOf_176 : decode cX10_sumOf 176 = .ok (.iload_n 3, 1) := by decide +kernel
theorem dX10_sumOf_177 : decode cX10_sumOf 177 = .ok (.i2l, 1) := by decide +kernel
theorem dX10_sumOf_178 : decode cX10_sumOf 178 = .ok (.lastore, 1) := by decide +kernel
theorem dX10_sumOf_179 : decode cX10_sumOf 179 = .ok (.aload_n 0, 1) := by decide +kernel
theorem dX10_sumOf_180 : decode cX10_sumOf 180 = .ok (.getfield 120, 3) := by decide +kernel
theorem dX10_sumOf_183 : decode cX10_sumOf 183 = .ok (.bipush 10, 2) := by decide +kernel
theorem dX10_sumOf_185 : decode cX10_sumOf 185 = .ok (.aload_n 0, 1) := by decide +kernel
theorem dX10_sumOf_186 : decode cX10_sumOf 186 = .ok (.getfield 9, 3) := by decide +kernel
theorem dX10_sumOf_189 : decode cX10_sumOf 189 = .ok (.bipush 6, 2) := by decide +kernel
theorem dX10_sumOf_191 : decode cX10_sumOf 191 = .ok (.iaload, 1) := by decide +kernel
theorem dX10_sumOf_192 : decode cX10_sumOf 192 = .ok (.i2l, 1) := by decide +kernel
theorem dX10_sumOf_193 : decode cX10_sumOf 193 = .ok (.lastore, 1) := by decide +kernel
theorem dX10_sumOf_194 : decode cX10_sumOf 194 = .ok (.aload_n 0, 1) := by decide +kernel
theorem dX10_sumOf_195 : decode cX10_sumOf 195 = .ok (.getfield 120, 3) := by decide +kernel
theorem dX10_sumOf_198 : decode cX10_sumOf 198 = .ok (.bipush 11, 2) := by decide +kernel
theorem dX10_sumOf_200 : decode cX10_sumOf 200 = .ok (.aload_n 0, 1) := by decide +kernel
theorem dX10_sumOf_201 : decode cX10_sumOf 201 = .ok (.getfield 9, 3) := by decide +kernel
theorem dX10_sumOf_204 : decode cX10_sumOf 204 = .ok (.bipush 7, 2) := by decide +kernel
theorem dX10_sumOf_206 : decode cX10_sumOf 206 = .ok (.iaload, 1) := by decide +kernel
theorem dX10_sumOf_207 : decode cX10_sumOf 207 = .ok (.invokestatic 380, 3) := by decide +kernel
theorem dX10_sumOf_210 : decode cX10_sumOf 210 = .ok (.i2l, 1) := by decide +kernel
theorem dX10_sumOf_211 : decode cX10_sumOf 211 = .ok (.lastore, 1) := by decide +kernel
theorem dX10_sumOf_212 : decode cX10_sumOf 212 = .ok (.aload_n 0, 1) := by decide +kernel
theorem dX10_sumOf_213 : decode cX10_sumOf 213 = .ok (.invokevirtual 385, 3) := by decide +kernel
theorem dX10_sumOf_216 : decode cX10_sumOf 216 = .ok (.lreturn, 1) := by decide +kernel
theorem dX10_callsBy_0 : decode cX10_callsBy 0 = .ok (.iconst (-1), 1) := by decide +kernel
theorem dX10_callsBy_1 : decode cX10_callsBy 1 = .ok (.istore_n 2, 1) := by decide +kernel
theorem dX10_callsBy_2 : decode cX10_callsBy 2 = .ok (.lconst 0, 1) := by decide +kernel
theorem dX10_callsBy_3 : decode cX10_callsBy 3 = .ok (.lstore_n 3, 1) := by decide +kernel
theorem dX10_callsBy_4 : decode cX10_callsBy 4 = .ok (.iconst 0, 1) := by decide +kernel
theorem dX10_callsBy_5 : decode cX10_callsBy 5 = .ok (.istore 5, 2) := by decide +kernel
theorem dX10_callsBy_7 : decode cX10_callsBy 7 = .ok (.iload 5, 2) := by decide +kernel
theorem dX10_callsBy_9 : decode cX10_callsBy 9 = .ok (.aload_n 0, 1) := by decide +kernel
theorem dX10_callsBy_10 : decode cX10_callsBy 10 = .ok (.getfield 9, 3) := by decide +kernel
theorem dX10_callsBy_13 : decode cX10_callsBy 13 = .ok (.iconst 3, 1) := by decide +kernel
theorem dX10_callsBy_14 : decode cX10_callsBy 14 = .ok (.iaload, 1) := by decide +kernel
theorem dX10_callsBy_15 : decode cX10_callsBy 15 = .ok (.if_icmp .ge 41, 3) := by decide +kernel
theorem dX10_callsBy_18 : decode cX10_callsBy 18 = .ok (.aload_n 0, 1) := by decide +kernel
theorem dX10_callsBy_19 : decode cX10_callsBy 19 = .ok (.iload_n 1, 1) := by decide +kernel
theorem dX10_callsBy_20 : decode cX10_callsBy 20 = .ok (.iload 5, 2) := by decide +kernel
theorem dX10_callsBy_22 : decode cX10_callsBy 22 = .ok (.invokevirtual 389, 3) := by decide +kernel
theorem dX10_callsBy_25 : decode cX10_callsBy 25 = .ok (.ifCond .eq 25, 3) := by decide +kernel
theorem dX10_callsBy_28 : decode cX10_callsBy 28 = .ok (.aload_n 0, 1) := by decide +kernel
theorem dX10_callsBy_29 : decode cX10_callsBy 29 = .ok (.iload_n 1, 1) := by decide +kernel
theorem dX10_callsBy_30 : decode cX10_callsBy 30 = .ok (.iload 5, 2) := by decide +kernel
theorem dX10_callsBy_32 : decode cX10_callsBy 32 = .ok (.invokevirtual 392, 3) := by decide +kernel
theorem dX10_callsBy_35 : decode cX10_callsBy 35 = .ok (.lstore 6, 2) := by decide +kernel
theorem dX10_callsBy_37 : decode cX10_callsBy 37 = .ok (.lload 6, 2) := by decide +kernel
theorem dX10_callsBy_39 : decode cX10_callsBy 39 = .ok (.lload_n 3, 1) := by decide +kernel
theorem dX10_callsBy_40 : decode cX10_callsBy 40 = .ok (.lcmp, 1) := by decide +kernel
theorem dX10_callsBy_41 : decode cX10_callsBy 41 = .ok (.ifCond .le 9, 3) := by decide +kernel
theorem dX10_callsBy_44 : decode cX10_callsBy 44 = .ok (.iload 5, 2) := by decide +kernel
theorem dX10_callsBy_46 : decode cX10_callsBy 46 = .ok (.istore_n 2, 1) := by decide +kernel
theorem dX10_callsBy_47 : decode cX10_callsBy 47 = .ok (.lload 6, 2) := by decide +kernel
theorem dX10_callsBy_49 : decode cX10_callsBy 49 = .ok (.lstore_n 3, 1) := by decide +kernel
theorem dX10_callsBy_50 : decode cX10_callsBy 50 = .ok (.iinc 5 1, 3) := by decide +kernel
theorem dX10_callsBy_53 : decode cX10_callsBy 53 = .ok (.goto (-46), 3) := by decide +kernel
theorem dX10_callsBy_56 : decode cX10_callsBy 56 = .ok (.iload_n 2, 1) := by decide +kernel
theorem dX10_callsBy_57 : decode cX10_callsBy 57 = .ok (.iconst (-1), 1) := by decide +kernel
theorem dX10_callsBy_58 : decode cX10_callsBy 58 = .ok (.if_icmp .ne 7, 3) := by decide +kernel
theorem dX10_callsBy_61 : decode cX10_callsBy 61 = .ok (.iconst 0, 1) := by decide +kernel
theorem dX10_callsBy_62 : decode cX10_callsBy 62 = .ok (.goto 9, 3) := by decide +kernel
theorem dX10_callsBy_65 : decode cX10_callsBy 65 = .ok (.aload_n 0, 1) := by decide +kernel
theorem dX10_callsBy_66 : decode cX10_callsBy 66 = .ok (.iload_n 1, 1) := by decide +kernel
theorem dX10_callsBy_67 : decode cX10_callsBy 67 = .ok (.iload_n 2, 1) := by decide +kernel
theorem dX10_callsBy_68 : decode cX10_callsBy 68 = .ok (.invokevirtual 396, 3) := by decide +kernel
theorem dX10_callsBy_71 : decode cX10_callsBy 71 = .ok (.ireturn, 1) := by decide +kernel
theorem dX10_burns_0 : decode cX10_burns 0 = .ok (.aload_n 0, 1) := by decide +kernel
theorem dX10_burns_1 : decode cX10_burns 1 = .ok (.getfield 399, 3) := by decide +kernel
theorem dX10_burns_4 : decode cX10_burns 4 = .ok (.ifCond .ne 10, 3) := by decide +kernel
theorem dX10_burns_7 : decode cX10_burns 7 = .ok (.aload_n 0, 1) := by decide +kernel
theorem dX10_burns_8 : decode cX10_burns 8 = .ok (.invokevirtual 402, 3) := by decide +kernel
theorem dX10_burns_11 : decode cX10_burns 11 = .ok (.ifCond .eq 14, 3) := by decide +kernel
theorem dX10_burns_14 : decode cX10_burns 14 = .ok (.iconst 2, 1) := by decide +kernel
theorem dX10_burns_15 : decode cX10_burns 15 = .ok (.aload_n 0, 1) := by decide +kernel
theorem dX10_burns_16 : decode cX10_burns 16 = .ok (.getfield 9, 3) := by decide +kernel
theorem dX10_burns_19 : decode cX10_burns 19 = .ok (.iconst 1, 1) := by decide +kernel
theorem dX10_burns_20 : decode cX10_burns 20 = .ok (.iaload, 1) := by decide +kernel
theorem dX10_burns_21 : decode cX10_burns 21 = .ok (.imul, 1) := by decide +kernel
theorem dX10_burns_22 : decode cX10_burns 22 = .ok (.goto 9, 3) := by decide +kernel
theorem dX10_burns_25 : decode cX10_burns 25 = .ok (.aload_n 0, 1) := by decide +kernel
theorem dX10_burns_26 : decode cX10_burns 26 = .ok (.getfield 9, 3) := by decide +kernel
theorem dX10_burns_29 : decode cX10_burns 29 = .ok (.iconst 1, 1) := by decide +kernel
theorem dX10_burns_30 : decode cX10_burns 30 = .ok (.iaload, 1) := by decide +kernel
theorem dX10_burns_31 : decode cX10_burns 31 = .ok (.istore_n 1, 1) := by decide +kernel
theorem dX10_burns_32 : decode cX10_burns 32 = .ok (.iconst 0, 1) := by decide +kernel
theorem dX10_burns_33 : decode cX10_burns 33 = .ok (.istore_n 2, 1) := by decide +kernel
theorem dX10_burns_34 : decode cX10_burns 34 = .ok (.iload_n 2, 1) := by decide +kernel
theorem dX10_burns_35 : decode cX10_burns 35 = .ok (.aload_n 0, 1) := by decide +kernel
theorem dX10_burns_36 : decode cX10_burns 36 = .ok (.getfield 9, 3) := by decide +kernel
theorem dX10_burns_39 : decode cX10_burns 39 = .ok (.iconst 3, 1) := by decide +kernel
theorem dX10_burns_40 : decode cX10_burns 40 = .ok (.iaload, 1) := by decide +kernel
theorem dX10_burns_41 : decode cX10_burns 41 = .ok (.if_icmp .ge 131, 3) := by decide +kernel
theorem dX10_burns_44 : decode cX10_burns 44 = .ok (.aload_n 0, 1) := by decide +kernel
theorem dX10_burns_45 : decode cX10_burns 45 = .ok (.iload_n 2, 1) := by decide +kernel
theorem dX10_burns_46 : decode cX10_burns 46 = .ok (.invokevirtual 371, 3) := by decide +kernel
theorem dX10_burns_49 : decode cX10_burns 49 = .ok (.ifCond .ne 117, 3) := by decide +kernel
theorem dX10_burns_52 : decode cX10_burns 52 = .ok (.aload_n 0, 1) := by decide +kernel
theorem dX10_burns_53 : decode cX10_burns 53 = .ok (.getfield 13, 3) := by decide +kernel
theorem dX10_burns_56 : decode cX10_burns 56 = .ok (.iload_n 2, 1) := by decide +kernel
theorem dX10_burns_57 : decode cX10_burns 57 = .ok (.iaload, 1) := by decide +kernel
theorem dX10_burns_58 : decode cX10_burns 58 = .ok (.aload_n 0, 1) := by decide +kernel
theorem dX10_burns_59 : decode cX10_burns 59 = .ok (.getfield 16, 3) := by decide +kernel
theorem dX10_burns_62 : decode cX10_burns 62 = .ok (.iload_n 2, 1) := by decide +kernel
theorem dX10_burns_63 : decode cX10_burns 63 = .ok (.iaload, 1) := by decide +kernel
theorem dX10_burns_64 : decode cX10_burns 64 = .ok (.ifCond .le 12, 3) := by decide +kernel
theorem dX10_burns_67 : decode cX10_burns 67 = .ok (.aload_n 0, 1) := by decide +kernel
theorem dX10_burns_68 : decode cX10_burns 68 = .ok (.getfield 19, 3) := by decide +kernel
theorem dX10_burns_71 : decode cX10_burns 71 = .ok (.iload_n 2, 1) := by decide +kernel
theorem dX10_burns_72 : decode cX10_burns 72 = .ok (.iaload, 1) := by decide +kernel
theorem dX10_burns_73 : decode cX10_burns 73 = .ok (.goto 4, 3) := by decide +kernel
theorem dX10_burns_76 : decode cX10_burns 76 = .ok (.iconst 0, 1) := by decide +kernel
theorem dX10_burns_77 : decode cX10_burns 77 = .ok (.iadd, 1) := by decide +kernel
theorem dX10_burns_78 : decode cX10_burns 78 = .ok (.istore_n 3, 1) := by decide +kernel
theorem dX10_burns_79 : decode cX10_burns 79 = .ok (.aload_n 0, 1) := by decide +kernel
theorem dX10_burns_80 : decode cX10_burns 80 = .ok (.getfield 16, 3) := by decide +kernel
theorem dX10_burns_83 : decode cX10_burns 83 = .ok (.iload_n 2, 1) := by decide +kernel
theorem dX10_burns_84 : decode cX10_burns 84 = .ok (.dup2, 1) := by decide +kernel
theorem dX10_burns_85 : decode cX10_burns 85 = .ok (.iaload, 1) := by decide +kernel
theorem dX10_burns_86 : decode cX10_burns 86 = .ok (.aload_n 0, 1) := by decide +kernel
theorem dX10_burns_87 : decode cX10_burns 87 = .ok (.getfield 16, 3) := by decide +kernel
theorem dX10_burns_90 : decode cX10_burns 90 = .ok (.iload_n 2, 1) := by decide +kernel
theorem dX10_burns_91 : decode cX10_burns 91 = .ok (.iaload, 1) := by decide +kernel
theorem dX10_burns_92 : decode cX10_burns 92 = .ok (.ifCond .le 7, 3) := by decide +kernel
theorem dX10_burns_95 : decode cX10_burns 95 = .ok (.iconst 1, 1) := by decide +kernel
theorem dX10_burns_96 : decode cX10_burns 96 = .ok (.goto 4, 3) := by decide +kernel
theorem dX10_burns_99 : decode cX10_burns 99 = .ok (.iconst 0, 1) := by decide +kernel
theorem dX10_burns_100 : decode cX10_burns 100 = .ok (.isub, 1) := by decide +kernel
theorem dX10_burns_101 : decode cX10_burns 101 = .ok (.iastore, 1) := by decide +kernel
theorem dX10_burns_102 : decode cX10_burns 102 = .ok (.iload_n 3, 1) := by decide +kernel
theorem dX10_burns_103 : decode cX10_burns 103 = .ok (.sipush 999, 3) := by decide +kernel
theorem dX10_burns_106 : decode cX10_burns 106 = .ok (.if_icmp .le 9, 3) := by decide +kernel
theorem dX10_burns_109 : decode cX10_burns 109 = .ok (.sipush 999, 3) := by decide +kernel
theorem dX10_burns_112 : decode cX10_burns 112 = .ok (.goto 4, 3) := by decide +kernel
theorem dX10_burns_115 : decode cX10_burns 115 = .ok (.iload_n 3, 1) := by decide +kernel
theorem dX10_burns_116 : decode cX10_burns 116 = .ok (.iload_n 1, 1) := by decide +kernel
theorem dX10_burns_117 : decode cX10_burns 117 = .ok (.isub, 1) := by decide +kernel
theorem dX10_burns_118 : decode cX10_burns 118 = .ok (.istore_n 3, 1) := by decide +kernel
theorem dX10_burns_119 : decode cX10_burns 119 = .ok (.aload_n 0, 1) := by decide +kernel
theorem dX10_burns_120 : decode cX10_burns 120 = .ok (.getfield 13, 3) := by decide +kernel
theorem dX10_burns_123 : decode cX10_burns 123 = .ok (.iload_n 2, 1) := by decide +kernel
theorem dX10_burns_124 : decode cX10_burns 124 = .ok (.iload_n 3, 1) := by decide +kernel
theorem dX10_burns_125 : decode cX10_burns 125 = .ok (.ifCond .ge 7, 3) := by decide +kernel
theorem dX10_burns_128 : decode cX10_burns 128 = .ok (.iconst 0, 1) := by decide +kernel
theorem dX10_burns_129 : decode cX10_burns 129 = .ok (.goto 4, 3) := by decide +kernel
theorem dX10_burns_132 : decode cX10_burns 132 = .ok (.iload_n 3, 1) := by decide +kernel
theorem dX10_burns_133 : decode cX10_burns 133 = .ok (.iastore, 1) := by decide +kernel
theorem dX10_burns_134 : decode cX10_burns 134 = .ok (.aload_n 0, 1) := by decide +kernel
theorem dX10_burns_135 : decode cX10_burns 135 = .ok (.getfield 9, 3) := by decide +kernel
theorem dX10_burns_138 : decode cX10_burns 138 = .ok (.bipush 7, 2) := by decide +kernel
theorem dX10_burns_140 : decode cX10_burns 140 = .ok (.dup2, 1) := by decide +kernel
theorem dX10_burns_141 : decode cX10_burns 141 = .ok (.iaload, 1) := by decide +kernel
theorem dX10_burns_142 : decode cX10_burns 142 = .ok (.aload_n 0, 1) := by decide +kernel
theorem dX10_burns_143 : decode cX10_burns 143 = .ok (.getfield 13, 3) := by decide +kernel
theorem dX10_burns_146 : decode cX10_burns 146 = .ok (.iload_n 2, 1) := by decide +kernel
theorem dX10_burns_147 : decode cX10_burns 147 = .ok (.iaload, 1) := by decide +kernel
theorem dX10_burns_148 : decode cX10_burns 148 = .ok (.aload_n 0, 1) := by decide +kernel
theorem dX10_burns_149 : decode cX10_burns 149 = .ok (.getfield 9, 3) := by decide +kernel
theorem dX10_burns_152 : decode cX10_burns 152 = .ok (.iconst 2, 1) := by decide +kernel
theorem dX10_burns_153 : decode cX10_burns 153 = .ok (.iaload, 1) := by decide +kernel
theorem dX10_burns_154 : decode cX10_burns 154 = .ok (.if_icmp .ge 9, 3) := by decide +kernel
theorem dX10_burns_157 : decode cX10_burns 157 = .ok (.iconst 1, 1) := by decide +kernel
theorem dX10_burns_158 : decode cX10_burns 158 = .ok (.iload_n 2, 1) := by decide +kernel
theorem dX10_burns_159 : decode cX10_burns 159 = .ok (.ishl, 1) := by decide +kernel
theorem dX10_burns_160 : decode cX10_burns 160 = .ok (.goto 4, 3) := by decide +kernel
theorem dX10_burns_163 : decode cX10_burns 163 = .ok (.iconst 0, 1) := by decide +kernel
theorem dX10_burns_164 : decode cX10_burns 164 = .ok (.ior, 1) := by decide +kernel
theorem dX10_burns_165 : decode cX10_burns 165 = .ok (.iastore, 1) := by decide +kernel
theorem dX10_burns_166 : decode cX10_burns 166 = .ok (.iinc 2 1, 3) := by decide +kernel
theorem dX10_burns_169 : decode cX10_burns 169 = .ok (.goto (-135), 3) := by decide +kernel
theorem dX10_burns_172 : decode cX10_burns 172 = .ok (.aload_n 0, 1) := by decide +kernel
theorem dX10_burns_173 : decode cX10_burns 173 = .ok (.getfield 9, 3) := by decide +kernel
theorem dX10_burns_176 : decode cX10_burns 176 = .ok (.bipush 6, 2) := by decide +kernel
theorem dX10_burns_178 : decode cX10_burns 178 = .ok (.dup2, 1) := by decide +kernel
theorem dX10_burns_179 : decode cX10_burns 179 = .ok (.iaload, 1) := by decide +kernel
theorem dX10_burns_180 : decode cX10_burns 180 = .ok (.iconst 1, 1) := by decide +kernel
theorem dX10_burns_181 : decode cX10_burns 181 = .ok (.iadd, 1) := by decide +kernel
theorem dX10_burns_182 : decode cX10_burns 182 = .ok (.iastore, 1) := by decide +kernel
theorem dX10_burns_183 : decode cX10_burns 183 = .ok (.return_, 1) := by decide +kernel
theorem dX10_goes_0 : decode cX10_goes 0 = .ok (.iconst 0, 1) := by decide +kernel
theorem dX10_goes_1 : decode cX10_goes 1 = .ok (.istore_n 1, 1) := by decide +kernel
theorem dX10_goes_2 : decode cX10_goes 2 = .ok (.iconst 0, 1) := by decide +kernel
theorem dX10_goes_3 : decode cX10_goes 3 = .ok (.istore_n 2, 1) := by decide +kernel
theorem dX10_goes_4 : decode cX10_goes 4 = .ok (.iload_n 2, 1) := by decide +kernel
theorem dX10_goes_5 : decode cX10_goes 5 = .ok (.aload_n 0, 1) := by decide +kernel
theorem dX10_goes_6 : decode cX10_goes 6 = .ok (.getfield 9, 3) := by decide +kernel
theorem dX10_goes_9 : decode cX10_goes 9 = .ok (.iconst 5, 1) := by decide +kernel
theorem dX10_goes_10 : decode cX10_goes 10 = .ok (.iaload, 1) := by decide +kernel
theorem dX10_goes_11 : decode cX10_goes 11 = .ok (.if_icmp .ge 28, 3) := by decide +kernel
theorem dX10_goes_14 : decode cX10_goes 14 = .ok (.aload_n 0, 1) := by decide +kernel
theorem dX10_goes_15 : decode cX10_goes 15 = .ok (.getfield 9, 3) := by decide +kernel
theorem dX10_goes_18 : decode cX10_goes 18 = .ok (.bipush 11, 2) := by decide +kernel
theorem dX10_goes_20 : decode cX10_goes 20 = .ok (.iaload, 1) := by decide +kernel
theorem dX10_goes_21 : decode cX10_goes 21 = .ok (.iconst (-1), 1) := by decide +kernel
theorem dX10_goes_22 : decode cX10_goes 22 = .ok (.if_icmp .eq 17, 3) := by decide +kernel
theorem dX10_goes_25 : decode cX10_goes 25 = .ok (.iload_n 1, 1) := by decide +kernel
theorem dX10_goes_26 : decode cX10_goes 26 = .ok (.aload_n 0, 1) := by decide +kernel
theorem dX10_goes_27 : decode cX10_goes 27 = .ok (.iload_n 2, 1) := by decide +kernel
theorem dX10_goes_28 : decode cX10_goes 28 = .ok (.invokevirtual 405, 3) := by decide +kernel
theorem dX10_goes_31 : decode cX10_goes 31 = .ok (.iadd, 1) := by decide +kernel
theorem dX10_goes_32 : decode cX10_goes 32 = .ok (.istore_n 1, 1) := by decide +kernel
theorem dX10_goes_33 : decode cX10_goes 33 = .ok (.iinc 2 1, 3) := by decide +kernel
theorem dX10_goes_36 : decode cX10_goes 36 = .ok (.goto (-32), 3) := by decide +kernel
theorem dX10_goes_39 : decode cX10_goes 39 = .ok (.aload_n 0, 1) := by decide +kernel
theorem dX10_goes_40 : decode cX10_goes 40 = .ok (.invokevirtual 408, 3) := by decide +kernel
theorem dX10_goes_43 : decode cX10_goes 43 = .ok (.iload_n 1, 1) := by decide +kernel
theorem dX10_goes_44 : decode cX10_goes 44 = .ok (.ireturn, 1) := by decide +kernel
theorem dX10_goFor_0 : decode cX10_goFor 0 = .ok (.iconst 0, 1) := by decide +kernel
theorem dX10_goFor_1 : decode cX10_goFor 1 = .ok (.istore_n 2, 1) := by decide +kernel
theorem dX10_goFor_2 : decode cX10_goFor 2 = .ok (.iload_n 2, 1) := by decide +kernel
theorem dX10_goFor_3 : decode cX10_goFor 3 = .ok (.iload_n 1, 1) := by decide +kernel
theorem dX10_goFor_4 : decode cX10_goFor 4 = .ok (.if_icmp .ge 14, 3) := by decide +kernel
theorem dX10_goFor_7 : decode cX10_goFor 7 = .ok (.aload_n 0, 1) := by decide +kernel
theorem dX10_goFor_8 : decode cX10_goFor 8 = .ok (.invokevirtual 411, 3) := by decide +kernel
theorem dX10_goFor_11 : decode cX10_goFor 11 = .ok (.pop, 1) := by decide +kernel
theorem dX10_goFor_12 : decode cX10_goFor 12 = .ok (.iinc 2 1, 3) := by decide +kernel
theorem dX10_goFor_15 : decode cX10_goFor 15 = .ok (.goto (-13), 3) := by decide +kernel
theorem dX10_goFor_18 : decode cX10_goFor 18 = .ok (.return_, 1) := by decide +kernel
theorem dX10_moves_0 : decode cX10_moves 0 = .ok (.aload_n 0, 1) := by decide +kernel
theorem dX10_moves_1 : decode cX10_moves 1 = .ok (.getfield 414, 3) := by decide +kernel
theorem dX10_moves_4 : decode cX10_moves 4 = .ok (.ifCond .eq 15, 3) := by decide +kernel
theorem dX10_moves_7 : decode cX10_moves 7 = .ok (.aload_n 0, 1) := by decide +kernel
theorem dX10_moves_8 : decode cX10_moves 8 = .ok (.getfield 127, 3) := by decide +kernel
theorem dX10_moves_11 : decode cX10_moves 11 = .ok (.aload_n 0, 1) := by decide +kernel
theorem dX10_moves_12 : decode cX10_moves 12 = .ok (.getfield 417, 3) := by decide +kernel
theorem dX10_moves_15 : decode cX10_moves 15 = .ok (.iaload, 1) := by decide +kernel
theorem dX10_moves_16 : decode cX10_moves 16 = .ok (.goto 4, 3) := by decide +kernel
theorem dX10_moves_19 : decode cX10_moves 19 = .ok (.iload_n 1, 1) := by decide +kernel
theorem dX10_moves_20 : decode cX10_moves 20 = .ok (.istore_n 2, 1) := by decide +kernel
theorem dX10_moves_21 : decode cX10_moves 21 = .ok (.aload_n 0, 1) := by decide +kernel
theorem dX10_moves_22 : decode cX10_moves 22 = .ok (.getfield 127, 3) := by decide +kernel
theorem dX10_moves_25 : decode cX10_moves 25 = .ok (.aload_n 0, 1) := by decide +kernel
theorem dX10_moves_26 : decode cX10_moves 26 = .ok (.getfield 417, 3) := by decide +kernel
theorem dX10_moves_29 : decode cX10_moves 29 = .ok (.iload_n 2, 1) := by decide +kernel
theorem dX10_moves_30 : decode cX10_moves 30 = .ok (.iastore, 1) := by decide +kernel
theorem dX10_moves_31 : decode cX10_moves 31 = .ok (.aload_n 0, 1) := by decide +kernel
theorem dX10_moves_32 : decode cX10_moves 32 = .ok (.dup, 1) := by decide +kernel
theorem dX10_moves_33 : decode cX10_moves 33 = .ok (.getfield 417, 3) := by decide +kernel
theorem dX10_moves_36 : decode cX10_moves 36 = .ok (.iconst 1, 1) := by decide +kernel
theorem dX10_moves_37 : decode cX10_moves 37 = .ok (.iadd, 1) := by decide +kernel
theorem dX10_moves_38 : decode cX10_moves 38 = .ok (.putfield 417, 3) := by decide +kernel
theorem dX10_moves_41 : decode cX10_moves 41 = .ok (.iload_n 2, 1) := by decide +kernel
theorem dX10_moves_42 : decode cX10_moves 42 = .ok (.ireturn, 1) := by decide +kernel
theorem dX10_movesRow_0 : decode cX10_movesRow 0 = .ok (.iconst 0, 1) := by decide +kernel
theorem dX10_movesRow_1 : decode cX10_movesRow 1 = .ok (.istore_n 2, 1) := by decide +kernel
theorem dX10_movesRow_2 : decode cX10_movesRow 2 = .ok (.iload_n 2, 1) := by decide +kernel
theorem dX10_movesRow_3 : decode cX10_movesRow 3 = .ok (.aload_n 1, 1) := by decide +kernel
theorem dX10_movesRow_4 : decode cX10_movesRow 4 = .ok (.arraylength, 1) := by decide +kernel
theorem dX10_movesRow_5 : decode cX10_movesRow 5 = .ok (.if_icmp .ge 19, 3) := by decide +kernel
theorem dX10_movesRow_8 : decode cX10_movesRow 8 = .ok (.aload_n 1, 1) := by decide +kernel
theorem dX10_movesRow_9 : decode cX10_movesRow 9 = .ok (.iload_n 2, 1) := by decide +kernel
theorem dX10_movesRow_10 : decode cX10_movesRow 10 = .ok (.aload_n 0, 1) := by decide +kernel
theorem dX10_movesRow_11 : decode cX10_movesRow 11 = .ok (.aload_n 1, 1) := by decide +kernel
theorem dX10_movesRow_12 : decode cX10_movesRow 12 = .ok (.iload_n 2, 1) := by decide +kernel
theorem dX10_movesRow_13 : decode cX10_movesRow 13 = .ok (.iaload, 1) := by decide +kernel
theorem dX10_movesRow_14 : decode cX10_movesRow 14 = .ok (.invokevirtual 420, 3) := by decide +kernel
theorem dX10_movesRow_17 : decode cX10_movesRow 17 = .ok (.iastore, 1) := by decide +kernel
theorem dX10_movesRow_18 : decode cX10_movesRow 18 = .ok (.iinc 2 1, 3) := by decide +kernel
theorem dX10_movesRow_21 : decode cX10_movesRow 21 = .ok (.goto (-19), 3) := by decide +kernel
theorem dX10_movesRow_24 : decode cX10_movesRow 24 = .ok (.return_, 1) := by decide +kernel
theorem dX10_movesAll_0 : decode cX10_movesAll 0 = .ok (.aload_n 0, 1) := by decide +kernel
theorem dX10_movesAll_1 : decode cX10_movesAll 1 = .ok (.bipush 41, 2) := by decide +kernel
theorem dX10_movesAll_3 : decode cX10_movesAll 3 = .ok (.iload_n 1, 1) := by decide +kernel
theorem dX10_movesAll_4 : decode cX10_movesAll 4 = .ok (.imul, 1) := by decide +kernel
theorem dX10_movesAll_5 : decode cX10_movesAll 5 = .ok (.putfield 417, 3) := by decide +kernel
theorem dX10_movesAll_8 : decode cX10_movesAll 8 = .ok (.aload_n 0, 1) := by decide +kernel
theorem dX10_movesAll_9 : decode cX10_movesAll 9 = .ok (.iload_n 2, 1) := by decide +kernel
theorem dX10_movesAll_10 : decode cX10_movesAll 10 = .ok (.putfield 414, 3) := by decide +kernel
theorem dX10_movesAll_13 : decode cX10_movesAll 13 = .ok (.bipush 6, 2) := by decide +kernel
theorem dX10_movesAll_15 : decode cX10_movesAll 15 = .ok (.istore_n 3, 1) := by decide +kernel
theorem dX10_movesAll_16 : decode cX10_movesAll 16 = .ok (.iload_n 3, 1) := by decide +kernel
theorem dX10_movesAll_17 : decode cX10_movesAll 17 = .ok (.bipush 8, 2) := by decide +kernel
theorem dX10_movesAll_19 : decode cX10_movesAll 19 = .ok (.if_icmp .gt 25, 3) := by decide +kernel
theorem dX10_movesAll_22 : decode cX10_movesAll 22 = .ok (.aload_n 0, 1) := by decide +kernel
theorem dX10_movesAll_23 : decode cX10_movesAll 23 = .ok (.getfield 9, 3) := by decide +kernel
theorem dX10_movesAll_26 : decode cX10_movesAll 26 = .ok (.iload_n 3, 1) := by decide +kernel
theorem dX10_movesAll_27 : decode cX10_movesAll 27 = .ok (.aload_n 0, 1) := by decide +kernel
theorem dX10_movesAll_28 : decode cX10_movesAll 28 = .ok (.aload_n 0, 1) := by decide +kernel
theorem dX10_movesAll_29 : decode cX10_movesAll 29 = .ok (.getfield 9, 3) := by decide +kernel
theorem dX10_movesAll_32 : decode cX10_movesAll 32 = .ok (.iload_n 3, 1) := by decide +kernel
theorem dX10_movesAll_33 : decode cX10_movesAll 33 = .ok (.iaload, 1) := by decide +kernel
theorem dX10_movesAll_34 : decode cX10_movesAll 34 = .ok (.invokevirtual 420, 3) := by decide +kernel
theorem dX10_movesAll_37 : decode cX10_movesAll 37 = .ok (.iastore, 1) := by decide +kernel
theorem dX10_movesAll_38 : decode cX10_movesAll 38 = .ok (.iinc 3 1, 3) := by decide +kernel
theorem dX10_movesAll_41 : decode cX10_movesAll 41 = .ok (.goto (-25), 3) := by decide +kernel
theorem dX10_movesAll_44 : decode cX10_movesAll 44 = .ok (.aload_n 0, 1) := by decide +kernel
theorem dX10_movesAll_45 : decode cX10_movesAll 45 = .ok (.aload_n 0, 1) := by decide +kernel
theorem dX10_movesAll_46 : decode cX10_movesAll 46 = .ok (.getfield 13, 3) := by decide +kernel
theorem dX10_movesAll_49 : decode cX10_movesAll 49 = .ok (.invokevirtual 423, 3) := by decide +kernel
theorem dX10_movesAll_52 : decode cX10_movesAll 52 = .ok (.aload_n 0, 1) := by decide +kernel
theorem dX10_movesAll_53 : decode cX10_movesAll 53 = .ok (.aload_n 0, 1) := by decide +kernel
theorem dX10_movesAll_54 : decode cX10_movesAll 54 = .ok (.getfield 16, 3) := by decide +kernel
theorem dX10_movesAll_57 : decode cX10_movesAll 57 = .ok (.invokevirtual 423, 3) := by decide +kernel
theorem dX10_movesAll_60 : decode cX10_movesAll 60 = .ok (.aload_n 0, 1) := by decide +kernel
theorem dX10_movesAll_61 : decode cX10_movesAll 61 = .ok (.aload_n 0, 1) := by decide +kernel
theorem dX10_movesAll_62 : decode cX10_movesAll 62 = .ok (.getfield 22, 3) := by decide +kernel
theorem dX10_movesAll_65 : decode cX10_movesAll 65 = .ok (.invokevirtual 423, 3) := by decide +kernel
theorem dX10_movesAll_68 : decode cX10_movesAll 68 = .ok (.aload_n 0, 1) := by decide +kernel
theorem dX10_movesAll_69 : decode cX10_movesAll 69 = .ok (.aload_n 0, 1) := by decide +kernel
theorem dX10_movesAll_70 : decode cX10_movesAll 70 = .ok (.getfield 28, 3) := by decide +kernel
theorem dX10_movesAll_73 : decode cX10_movesAll 73 = .ok (.invokevirtual 423, 3) := by decide +kernel
theorem dX10_movesAll_76 : decode cX10_movesAll 76 = .ok (.aload_n 0, 1) := by decide +kernel
theorem dX10_movesAll_77 : decode cX10_movesAll 77 = .ok (.aload_n 0, 1) := by decide +kernel
theorem dX10_movesAll_78 : decode cX10_movesAll 78 = .ok (.getfield 31, 3) := by decide +kernel
theorem dX10_movesAll_81 : decode cX10_movesAll 81 = .ok (.invokevirtual 423, 3) := by decide +kernel
theorem dX10_movesAll_84 : decode cX10_movesAll 84 = .ok (.aload_n 0, 1) := by decide +kernel
theorem dX10_movesAll_85 : decode cX10_movesAll 85 = .ok (.aload_n 0, 1) := by decide +kernel
theorem dX10_movesAll_86 : decode cX10_movesAll 86 = .ok (.getfield 37, 3) := by decide +kernel
theorem dX10_movesAll_89 : decode cX10_movesAll 89 = .ok (.invokevirtual 423, 3) := by decide +kernel
theorem dX10_movesAll_92 : decode cX10_movesAll 92 = .ok (.return_, 1) := by decide +kernel
theorem dX10_keepsAct_0 : decode cX10_keepsAct 0 = .ok (.aload_n 0, 1) := by decide +kernel
theorem dX10_keepsAct_1 : decode cX10_keepsAct 1 = .ok (.getfield 334, 3) := by decide +kernel
theorem dX10_keepsAct_4 : decode cX10_keepsAct 4 = .ok (.bipush 20, 2) := by decide +kernel
theorem dX10_keepsAct_6 : decode cX10_keepsAct 6 = .ok (.if_icmp .ne 44, 3) := by decide +kernel
theorem dX10_keepsAct_9 : decode cX10_keepsAct 9 = .ok (.bipush 41, 2) := by decide +kernel
theorem dX10_keepsAct_11 : decode cX10_keepsAct 11 = .ok (.istore_n 1, 1) := by decide +kernel
theorem dX10_keepsAct_12 : decode cX10_keepsAct 12 = .ok (.iload_n 1, 1) := by decide +kernel
theorem dX10_keepsAct_13 : decode cX10_keepsAct 13 = .ok (.sipush 820, 3) := by decide +kernel
theorem dX10_keepsAct_16 : decode cX10_keepsAct 16 = .ok (.if_icmp .ge 24, 3) := by decide +kernel
theorem dX10_keepsAct_19 : decode cX10_keepsAct 19 = .ok (.aload_n 0, 1) := by decide +kernel
theorem dX10_keepsAct_20 : decode cX10_keepsAct 20 = .ok (.getfield 127, 3) := by decide +kernel
theorem dX10_keepsAct_23 : decode cX10_keepsAct 23 = .ok (.iload_n 1, 1) := by decide +kernel
theorem dX10_keepsAct_24 : decode cX10_keepsAct 24 = .ok (.bipush 41, 2) := by decide +kernel
theorem dX10_keepsAct_26 : decode cX10_keepsAct 26 = .ok (.isub, 1) := by decide +kernel
theorem dX10_keepsAct_27 : decode cX10_keepsAct 27 = .ok (.aload_n 0, 1) := by decide +kernel
theorem dX10_keepsAct_28 : decode cX10_keepsAct 28 = .ok (.getfield 127, 3) := by decide +kernel
theorem dX10_keepsAct_31 : decode cX10_keepsAct 31 = .ok (.iload_n 1, 1) := by decide +kernel
theorem dX10_keepsAct_32 : decode cX10_keepsAct 32 = .ok (.iaload, 1) := by decide +kernel
theorem dX10_keepsAct_33 : decode cX10_keepsAct 33 = .ok (.iastore, 1) := by decide +kernel
theorem dX10_keepsAct_34 : decode cX10_keepsAct 34 = .ok (.iinc 1 1, 3) := by decide +kernel
theorem dX10_keepsAct_37 : decode cX10_keepsAct 37 = .ok (.goto (-25), 3) := by decide +kernel
theorem dX10_keepsAct_40 : decode cX10_keepsAct 40 = .ok (.aload_n 0, 1) := by decide +kernel
theorem dX10_keepsAct_41 : decode cX10_keepsAct 41 = .ok (.dup, 1) := by decide +kernel
theorem dX10_keepsAct_42 : decode cX10_keepsAct 42 = .ok (.getfield 334, 3) := by decide +kernel
theorem dX10_keepsAct_45 : decode cX10_keepsAct 45 = .ok (.iconst 1, 1) := by decide +kernel
theorem dX10_keepsAct_46 : decode cX10_keepsAct 46 = .ok (.isub, 1) := by decide +kernel
theorem dX10_keepsAct_47 : decode cX10_keepsAct 47 = .ok (.putfield 334, 3) := by decide +kernel
theorem dX10_keepsAct_50 : decode cX10_keepsAct 50 = .ok (.aload_n 0, 1) := by decide +kernel
theorem dX10_keepsAct_51 : decode cX10_keepsAct 51 = .ok (.aload_n 0, 1) := by decide +kernel
theorem dX10_keepsAct_52 : decode cX10_keepsAct 52 = .ok (.getfield 334, 3) := by decide +kernel
theorem dX10_keepsAct_55 : decode cX10_keepsAct 55 = .ok (.iconst 0, 1) := by decide +kernel
theorem dX10_keepsAct_56 : decode cX10_keepsAct 56 = .ok (.invokevirtual 427, 3) := by decide +kernel
theorem dX10_keepsAct_59 : decode cX10_keepsAct 59 = .ok (.aload_n 0, 1) := by decide +kernel
theorem dX10_keepsAct_60 : decode cX10_keepsAct 60 = .ok (.dup, 1) := by decide +kernel
theorem dX10_keepsAct_61 : decode cX10_keepsAct 61 = .ok (.getfield 334, 3) := by decide +kernel
theorem dX10_keepsAct_64 : decode cX10_keepsAct 64 = .ok (.iconst 1, 1) := by decide +kernel
theorem dX10_keepsAct_65 : decode cX10_keepsAct 65 = .ok (.iadd, 1) := by decide +kernel
theorem dX10_keepsAct_66 : decode cX10_keepsAct 66 = .ok (.putfield 334, 3) := by decide +kernel
theorem dX10_keepsAct_69 : decode cX10_keepsAct 69 = .ok (.return_, 1) := by decide +kernel
theorem dX10_undo_0 : decode cX10_undo 0 = .ok (.aload_n 0, 1) := by decide +kernel
theorem dX10_undo_1 : decode cX10_undo 1 = .ok (.getfield 334, 3) := by decide +kernel
theorem dX10_undo_4 : decode cX10_undo 4 = .ok (.ifCond .ne 6, 3) := by decide +kernel
theorem dX10_undo_7 : decode cX10_undo 7 = .ok (.bipush (-2), 2) := by decide +kernel
theorem dX10_undo_9 : decode cX10_undo 9 = .ok (.ireturn, 1) := by decide +kernel
theorem dX10_undo_10 : decode cX10_undo 10 = .ok (.aload_n 0, 1) := by decide +kernel
theorem dX10_undo_11 : decode cX10_undo 11 = .ok (.dup, 1) := by decide +kernel
theorem dX10_undo_12 : decode cX10_undo 12 = .ok (.getfield 334, 3) := by decide +kernel
theorem dX10_undo_15 : decode cX10_undo 15 = .ok (.iconst 1, 1) := by decide +kernel
theorem dX10_undo_16 : decode cX10_undo 16 = .ok (.isub, 1) := by decide +kernel
theorem dX10_undo_17 : decode cX10_undo 17 = .ok (.putfield 334, 3) := by decide +kernel
theorem dX10_undo_20 : decode cX10_undo 20 = .ok (.aload_n 0, 1) := by decide +kernel
theorem dX10_undo_21 : decode cX10_undo 21 = .ok (.aload_n 0, 1) := by decide +kernel
theorem dX10_undo_22 : decode cX10_undo 22 = .ok (.getfield 334, 3) := by decide +kernel
theorem dX10_undo_25 : decode cX10_undo 25 = .ok (.iconst 1, 1) := by decide +kernel
theorem dX10_undo_26 : decode cX10_undo 26 = .ok (.invokevirtual 427, 3) := by decide +kernel
theorem dX10_undo_29 : decode cX10_undo 29 = .ok (.aload_n 0, 1) := by decide +kernel
theorem dX10_undo_30 : decode cX10_undo 30 = .ok (.getfield 334, 3) := by decide +kernel
theorem dX10_undo_33 : decode cX10_undo 33 = .ok (.ireturn, 1) := by decide +kernel
theorem dX10_night_0 : decode cX10_night 0 = .ok (.aload_n 0, 1) := by decide +kernel
theorem dX10_night_1 : decode cX10_night 1 = .ok (.getfield 327, 3) := by decide +kernel
theorem dX10_night_4 : decode cX10_night 4 = .ok (.ifCond .eq 16, 3) := by decide +kernel
theorem dX10_night_7 : decode cX10_night 7 = .ok (.aload_n 0, 1) := by decide +kernel
theorem dX10_night_8 : decode cX10_night 8 = .ok (.getfield 9, 3) := by decide +kernel
theorem dX10_night_11 : decode cX10_night 11 = .ok (.bipush 6, 2) := by decide +kernel
theorem dX10_night_13 : decode cX10_night 13 = .ok (.iaload, 1) := by decide +kernel
theorem dX10_night_14 : decode cX10_night 14 = .ok (.sipush 999, 3) := by decide +kernel
theorem dX10_night_17 : decode cX10_night 17 = .ok (.if_icmp .ne 5, 3) := by decide +kernel
theorem dX10_night_20 : decode cX10_night 20 = .ok (.iconst (-1), 1) := by decide +kernel
theorem dX10_night_21 : decode cX10_night 21 = .ok (.ireturn, 1) := by decide +kernel
theorem dX10_night_22 : decode cX10_night 22 = .ok (.aload_n 0, 1) := by decide +kernel
theorem dX10_night_23 : decode cX10_night 23 = .ok (.invokevirtual 431, 3) := by decide +kernel
theorem dX10_night_26 : decode cX10_night 26 = .ok (.aload_n 0, 1) := by decide +kernel
theorem dX10_night_27 : decode cX10_night 27 = .ok (.invokevirtual 411, 3) := by decide +kernel
theorem dX10_night_30 : decode cX10_night 30 = .ok (.ireturn, 1) := by decide +kernel
theorem dX10_fell_0 : decode cX10_fell 0 = .ok (.aload_n 0, 1) := by decide +kernel
theorem dX10_fell_1 : decode cX10_fell 1 = .ok (.iload_n 1, 1) := by decide +kernel
theorem dX10_fell_2 : decode cX10_fell 2 = .ok (.invokevirtual 367, 3) := by decide +kernel
theorem dX10_fell_5 : decode cX10_fell 5 = .ok (.ifCond .eq 28, 3) := by decide +kernel
theorem dX10_fell_8 : decode cX10_fell 8 = .ok (.iload_n 2, 1) := by decide +kernel
theorem dX10_fell_9 : decode cX10_fell 9 = .ok (.i2l, 1) := by decide +kernel
theorem dX10_fell_10 : decode cX10_fell 10 = .ok (.lconst 1, 1) := by decide +kernel
theorem dX10_fell_11 : decode cX10_fell 11 = .ok (.ldc2_w 434, 3) := by decide +kernel
theorem dX10_fell_14 : decode cX10_fell 14 = .ok (.invokestatic 152, 3) := by decide +kernel
theorem dX10_fell_17 : decode cX10_fell 17 = .ok (.ifCond .eq 16, 3) := by decide +kernel
theorem dX10_fell_20 : decode cX10_fell 20 = .ok (.aload_n 0, 1) := by decide +kernel
theorem dX10_fell_21 : decode cX10_fell 21 = .ok (.getfield 16, 3) := by decide +kernel
theorem dX10_fell_24 : decode cX10_fell 24 = .ok (.iload_n 1, 1) := by decide +kernel
theorem dX10_fell_25 : decode cX10_fell 25 = .ok (.iaload, 1) := by decide +kernel
theorem dX10_fell_26 : decode cX10_fell 26 = .ok (.iload_n 2, 1) := by decide +kernel
theorem dX10_fell_27 : decode cX10_fell 27 = .ok (.iadd, 1) := by decide +kernel
theorem dX10_fell_28 : decode cX10_fell 28 = .ok (.bipush 99, 2) := by decide +kernel
theorem dX10_fell_30 : decode cX10_fell 30 = .ok (.if_icmp .le 5, 3) := by decide +kernel
theorem dX10_fell_33 : decode cX10_fell 33 = .ok (.iconst (-1), 1) := by decide +kernel
theorem dX10_fell_34 : decode cX10_fell 34 = .ok (.ireturn, 1) := by decide +kernel
theorem dX10_fell_35 : decode cX10_fell 35 = .ok (.aload_n 0, 1) := by decide +kernel
theorem dX10_fell_36 : decode cX10_fell 36 = .ok (.invokevirtual 431, 3) := by decide +kernel
theorem dX10_fell_39 : decode cX10_fell 39 = .ok (.aload_n 0, 1) := by decide +kernel
theorem dX10_fell_40 : decode cX10_fell 40 = .ok (.getfield 16, 3) := by decide +kernel
theorem dX10_fell_43 : decode cX10_fell 43 = .ok (.iload_n 1, 1) := by decide +kernel
theorem dX10_fell_44 : decode cX10_fell 44 = .ok (.dup2, 1) := by decide +kernel
theorem dX10_fell_45 : decode cX10_fell 45 = .ok (.iaload, 1) := by decide +kernel
theorem dX10_fell_46 : decode cX10_fell 46 = .ok (.iload_n 2, 1) := by decide +kernel
theorem dX10_fell_47 : decode cX10_fell 47 = .ok (.iadd, 1) := by decide +kernel
theorem dX10_fell_48 : decode cX10_fell 48 = .ok (.iastore, 1) := by decide +kernel
theorem dX10_fell_49 : decode cX10_fell 49 = .ok (.aload_n 0, 1) := by decide +kernel
theorem dX10_fell_50 : decode cX10_fell 50 = .ok (.getfield 16, 3) := by decide +kernel
theorem dX10_fell_53 : decode cX10_fell 53 = .ok (.iload_n 1, 1) := by decide +kernel
theorem dX10_fell_54 : decode cX10_fell 54 = .ok (.iaload, 1) := by decide +kernel
theorem dX10_fell_55 : decode cX10_fell 55 = .ok (.ireturn, 1) := by decide +kernel
theorem dX10_held_0 : decode cX10_held 0 = .ok (.iload_n 0, 1) := by decide +kernel
theorem dX10_held_1 : decode cX10_held 1 = .ok (.sipush 999, 3) := by decide +kernel
theorem dX10_held_4 : decode cX10_held 4 = .ok (.if_icmp .le 9, 3) := by decide +kernel
theorem dX10_held_7 : decode cX10_held 7 = .ok (.sipush 999, 3) := by decide +kernel
theorem dX10_held_10 : decode cX10_held 10 = .ok (.goto 4, 3) := by decide +kernel
theorem dX10_held_13 : decode cX10_held 13 = .ok (.iload_n 0, 1) := by decide +kernel
theorem dX10_held_14 : decode cX10_held 14 = .ok (.ireturn, 1) := by decide +kernel
theorem dX10_lends_0 : decode cX10_lends 0 = .ok (.aload_n 0, 1) := by decide +kernel
theorem dX10_lends_1 : decode cX10_lends 1 = .ok (.getfield 13, 3) := by decide +kernel
theorem dX10_lends_4 : decode cX10_lends 4 = .ok (.iload_n 1, 1) := by decide +kernel
theorem dX10_lends_5 : decode cX10_lends 5 = .ok (.dup2, 1) := by decide +kernel
theorem dX10_lends_6 : decode cX10_lends 6 = .ok (.iaload, 1) := by decide +kernel
theorem dX10_lends_7 : decode cX10_lends 7 = .ok (.iload_n 3, 1) := by decide +kernel
theorem dX10_lends_8 : decode cX10_lends 8 = .ok (.isub, 1) := by decide +kernel
theorem dX10_lends_9 : decode cX10_lends 9 = .ok (.iastore, 1) := by decide +kernel
theorem dX10_lends_10 : decode cX10_lends 10 = .ok (.aload_n 0, 1) := by decide +kernel
theorem dX10_lends_11 : decode cX10_lends 11 = .ok (.getfield 13, 3) := by decide +kernel
theorem dX10_lends_14 : decode cX10_lends 14 = .ok (.iload_n 2, 1) := by decide +kernel
theorem dX10_lends_15 : decode cX10_lends 15 = .ok (.aload_n 0, 1) := by decide +kernel
theorem dX10_lends_16 : decode cX10_lends 16 = .ok (.getfield 13, 3) := by decide +kernel
theorem dX10_lends_19 : decode cX10_lends 19 = .ok (.iload_n 2, 1) := by decide +kernel
theorem dX10_lends_20 : decode cX10_lends 20 = .ok (.iaload, 1) := by decide +kernel
theorem dX10_lends_21 : decode cX10_lends 21 = .ok (.iload_n 3, 1) := by decide +kernel
theorem dX10_lends_22 : decode cX10_lends 22 = .ok (.iadd, 1) := by decide +kernel
theorem dX10_lends_23 : decode cX10_lends 23 = .ok (.invokestatic 436, 3) := by decide +kernel
theorem dX10_lends_26 : decode cX10_lends 26 = .ok (.iastore, 1) := by decide +kernel
theorem dX10_lends_27 : decode cX10_lends 27 = .ok (.aload_n 0, 1) := by decide +kernel
theorem dX10_lends_28 : decode cX10_lends 28 = .ok (.iload_n 2, 1) := by decide +kernel
theorem dX10_lends_29 : decode cX10_lends 29 = .ok (.invokevirtual 371, 3) := by decide +kernel
theorem dX10_lends_32 : decode cX10_lends 32 = .ok (.ifCond .eq 33, 3) := by decide +kernel
theorem dX10_lends_35 : decode cX10_lends 35 = .ok (.aload_n 0, 1) := by decide +kernel
theorem dX10_lends_36 : decode cX10_lends 36 = .ok (.getfield 13, 3) := by decide +kernel
theorem dX10_lends_39 : decode cX10_lends 39 = .ok (.iload_n 2, 1) := by decide +kernel
theorem dX10_lends_40 : decode cX10_lends 40 = .ok (.iaload, 1) := by decide +kernel
theorem dX10_lends_41 : decode cX10_lends 41 = .ok (.aload_n 0, 1) := by decide +kernel
theorem dX10_lends_42 : decode cX10_lends 42 = .ok (.getfield 9, 3) := by decide +kernel
theorem dX10_lends_45 : decode cX10_lends 45 = .ok (.iconst 2, 1) := by decide +kernel
theorem dX10_lends_46 : decode cX10_lends 46 = .ok (.iaload, 1) := by decide +kernel
theorem dX10_lends_47 : decode cX10_lends 47 = .ok (.if_icmp .lt 18, 3) := by decide +kernel
theorem dX10_lends_50 : decode cX10_lends 50 = .ok (.aload_n 0, 1) := by decide +kernel
theorem dX10_lends_51 : decode cX10_lends 51 = .ok (.getfield 9, 3) := by decide +kernel
theorem dX10_lends_54 : decode cX10_lends 54 = .ok (.bipush 7, 2) := by decide +kernel
theorem dX10_lends_56 : decode cX10_lends 56 = .ok (.dup2, 1) := by decide +kernel
theorem dX10_lends_57 : decode cX10_lends 57 = .ok (.iaload, 1) := by decide +kernel
theorem dX10_lends_58 : decode cX10_lends 58 = .ok (.iconst 1, 1) := by decide +kernel
theorem dX10_lends_59 : decode cX10_lends 59 = .ok (.iload_n 2, 1) := by decide +kernel
theorem dX10_lends_60 : decode cX10_lends 60 = .ok (.ishl, 1) := by decide +kernel
theorem dX10_lends_61 : decode cX10_lends 61 = .ok (.iconst (-1), 1) := by decide +kernel
theorem dX10_lends_62 : decode cX10_lends 62 = .ok (.ixor, 1) := by decide +kernel
theorem dX10_lends_63 : decode cX10_lends 63 = .ok (.iand, 1) := by decide +kernel
theorem dX10_lends_64 : decode cX10_lends 64 = .ok (.iastore, 1) := by decide +kernel
theorem dX10_lends_65 : decode cX10_lends 65 = .ok (.return_, 1) := by decide +kernel
theorem dX10_lend_0 : decode cX10_lend 0 = .ok (.aload_n 0, 1) := by decide +kernel
theorem dX10_lend_1 : decode cX10_lend 1 = .ok (.iload_n 1, 1) := by decide +kernel
theorem dX10_lend_2 : decode cX10_lend 2 = .ok (.invokevirtual 367, 3) := by decide +kernel
theorem dX10_lend_5 : decode cX10_lend 5 = .ok (.ifCond .eq 48, 3) := by decide +kernel
theorem dX10_lend_8 : decode cX10_lend 8 = .ok (.aload_n 0, 1) := by decide +kernel
theorem dX10_lend_9 : decode cX10_lend 9 = .ok (.iload_n 2, 1) := by decide +kernel
theorem dX10_lend_10 : decode cX10_lend 10 = .ok (.invokevirtual 367, 3) := by decide +kernel
theorem dX10_lend_13 : decode cX10_lend 13 = .ok (.ifCond .eq 40, 3) := by decide +kernel
theorem dX10_lend_16 : decode cX10_lend 16 = .ok (.aload_n 0, 1) := by decide +kernel
theorem dX10_lend_17 : decode cX10_lend 17 = .ok (.iload_n 1, 1) := by decide +kernel
theorem dX10_lend_18 : decode cX10_lend 18 = .ok (.invokevirtual 371, 3) := by decide +kernel
theorem dX10_lend_21 : decode cX10_lend 21 = .ok (.ifCond .ne 32, 3) := by decide +kernel
theorem dX10_lend_24 : decode cX10_lend 24 = .ok (.aload_n 0, 1) := by decide +kernel
theorem dX10_lend_25 : decode cX10_lend 25 = .ok (.getfield 25, 3) := by decide +kernel
theorem dX10_lend_28 : decode cX10_lend 28 = .ok (.iload_n 1, 1) := by decide +kernel
theorem dX10_lend_29 : decode cX10_lend 29 = .ok (.iaload, 1) := by decide +kernel
theorem dX10_lend_30 : decode cX10_lend 30 = .ok (.iload_n 2, 1) := by decide +kernel
theorem dX10_lend_31 : decode cX10_lend 31 = .ok (.invokestatic 156, 3) := by decide +kernel
theorem dX10_lend_34 : decode cX10_lend 34 = .ok (.ifCond .eq 19, 3) := by decide +kernel
theorem dX10_lend_37 : decode cX10_lend 37 = .ok (.iload_n 3, 1) := by decide +kernel
theorem dX10_lend_38 : decode cX10_lend 38 = .ok (.i2l, 1) := by decide +kernel
theorem dX10_lend_39 : decode cX10_lend 39 = .ok (.lconst 1, 1) := by decide +kernel
theorem dX10_lend_40 : decode cX10_lend 40 = .ok (.aload_n 0, 1) := by decide +kernel
theorem dX10_lend_41 : decode cX10_lend 41 = .ok (.getfield 13, 3) := by decide +kernel
theorem dX10_lend_44 : decode cX10_lend 44 = .ok (.iload_n 1, 1) := by decide +kernel
theorem dX10_lend_45 : decode cX10_lend 45 = .ok (.iaload, 1) := by decide +kernel
theorem dX10_lend_46 : decode cX10_lend 46 = .ok (.i2l, 1) := by decide +kernel
theorem dX10_lend_47 : decode cX10_lend 47 = .ok (.invokestatic 152, 3) := by decide +kernel
theorem dX10_lend_50 : decode cX10_lend 50 = .ok (.ifCond .ne 5, 3) := by decide +kernel
theorem dX10_lend_53 : decode cX10_lend 53 = .ok (.iconst (-1), 1) := by decide +kernel
theorem dX10_lend_54 : decode cX10_lend 54 = .ok (.ireturn, 1) := by decide +kernel
theorem dX10_lend_55 : decode cX10_lend 55 = .ok (.aload_n 0, 1) := by decide +kernel
theorem dX10_lend_56 : decode cX10_lend 56 = .ok (.invokevirtual 431, 3) := by decide +kernel
theorem dX10_lend_59 : decode cX10_lend 59 = .ok (.aload_n 0, 1) := by decide +kernel
theorem dX10_lend_60 : decode cX10_lend 60 = .ok (.iload_n 1, 1) := by decide +kernel
theorem dX10_lend_61 : decode cX10_lend 61 = .ok (.iload_n 2, 1) := by decide +kernel
theorem dX10_lend_62 : decode cX10_lend 62 = .ok (.iload_n 3, 1) := by decide +kernel
theorem dX10_lend_63 : decode cX10_lend 63 = .ok (.invokevirtual 439, 3) := by decide +kernel
theorem dX10_lend_66 : decode cX10_lend 66 = .ok (.aload_n 0, 1) := by decide +kernel
theorem dX10_lend_67 : decode cX10_lend 67 = .ok (.getfield 13, 3) := by decide +kernel
theorem dX10_lend_70 : decode cX10_lend 70 = .ok (.iload_n 2, 1) := by decide +kernel
theorem dX10_lend_71 : decode cX10_lend 71 = .ok (.iaload, 1) := by decide +kernel
theorem dX10_lend_72 : decode cX10_lend 72 = .ok (.ireturn, 1) := by decide +kernel
def fX10_canCall_B36 (p1 : Int32) (p2 : Int32) (st : St) : Option Int32 := gd (ix p2 8) (if (st.1 508 p2.toNatClampNeg) = (st.1 502 6) then (some (0 : Int32)) else (some (1 : Int32)))
set_option maxRecDepth 100000 in
theorem wX10_canCall_B36 {p : Program} {l : Launch} {e : Env} {s : State} {m : MethodId} {args : Array Value} {below : List Frame} {meth : Method} {c : Code} {E : Ev} (hL : ∀ k, fxM k = true → k ∈ eL E) {p1 : Int32} {p2 : Int32} {st : St} {sz : Nat} {res : Int32} (X : CX p s m args c E RX10 cX10_canCall 3 (Af E sz)) (hr : meth.sig.returnType = (some .boolean)) (hlk : meth.locks = false) (G : Gd E st (Af E sz) s s.heap []) : fX10_canCall_B36 p1 p2 st   = some res → ∀ ls : Array Slot, lv_has ls 3 [(0, .ref (eq E 500)), (2, .int p2)] → W p l e (rmk 2) s m args below meth c s.heap [] 0 0 (MQ below (QRi res) args s 0 0 (NoF)) (F0 m 36 ls []) := by
  have hx := X.1.1
  have hb := X.1.2.1
  intro  hf ls hl
  unfold fX10_canCall_B36 at hf
  refine lv_aload_n hx hb dX10_canCall_36 rfl (lv_at hl 0 rfl) ?_
  refine gf10 X G (hL 500 rfl) rfl 7 (by decide) rfl kf_X10_28 iwX10 dX10_canCall_37 ?_
  refine lv_iload_n hx hb dX10_canCall_40 rfl (lv_at hl 1 rfl) ?_
  obtain ⟨h1, hf⟩ := gd_s hf
  refine ia_ld (k := 508) (n := 8) X G (hL 508 rfl) rfl (by decide) (ix_in h1) dX10_canCall_41 ?_
  refine lv_aload_n hx hb dX10_canCall_42 rfl (lv_at hl 0 rfl) ?_
  refine gf10 X G (hL 500 rfl) rfl 1 (by decide) rfl kf_X10_9 iwX10 dX10_canCall_43 ?_
  refine lv_bipush (v := (6 : Int32)) hx hb dX10_canCall_46 (by decide) ?_
  refine ia_ldc (k := 502) (n := 12) X G (hL 502 rfl) rfl (by decide) 6 (by decide) dX10_canCall_48 ?_
  refine lv_icmp_eq (tgt := 56) hx hb dX10_canCall_49 (by decide) (fun c3 => ?_) (fun c3 => ?_)
  · have hf := it_t hf c3
    refine lv_iconst (v := (0 : Int32)) hx hb dX10_canCall_56 (by decide) ?_
    exact rtRz X hlk hr rfl (so_i hf) dX10_canCall_57
  · have hf := it_f hf c3
    refine lv_iconst (v := (1 : Int32)) hx hb dX10_canCall_52 (by decide) ?_
    refine lv_goto (tgt := 57) hx hb dX10_canCall_53 (by decide) ?_
    exact rtRz X hlk hr rfl (so_i hf) dX10_canCall_57
def fX10_canCall (st : St) (p1 : Int32) (p2 : Int32) : Option Int32 := br (fX10_isFrozen st p2) (fun x2 => if x2 = 0 then (gd (ix p1 3) (if (st.1 509 p1.toNatClampNeg) = p2 then (fX10_canCall_B36 p1 p2 st ) else (gd (ix p1 3) (gd (ix (st.1 509 p1.toNatClampNeg) 8) (br (fX10_has (st.1 507 (st.1 509 p1.toNatClampNeg).toNatClampNeg) p2) (fun x9 => if x9 = 0 then (some (0 : Int32)) else (fX10_canCall_B36 p1 p2 st ))))))) else (some (0 : Int32)))
set_option maxRecDepth 100000 in
theorem tX10_canCall (l : Launch) (E : Ev) (st : St) (sz : Nat) (hL : ∀ k, fxM k = true → k ∈ eL E) (p1 : Int32) (p2 : Int32) {res : Int32} (hf : fX10_canCall st p1 p2 = some res) : Met l yX10_canCall (.code yX10_canCall cX10_canCall 3 (some .boolean) :: uW) (rmk 2) (va_Pc [.ref (eq E 500), .int p1, .int p2] (Pre E st sz)) (QRi res) 0 0 (NoF) := by
  refine Met_in (by decide) (Nat.le_of_ble_eq_true rfl) ?_
  intro p e s m below meth c X hr hlk hz G ls hl
  have hx := X.1.1
  have hb := X.1.2.1
  have hl : lv_has ls 3 [(0, .ref (eq E 500)), (1, .int p1), (2, .int p2)] := hl
  unfold fX10_canCall at hf
  refine lv_aload_n hx hb dX10_canCall_0 rfl (lv_at hl 0 rfl) ?_
  refine lv_iload_n hx hb dX10_canCall_1 rfl (lv_at hl 2 rfl) ?_
  obtain ⟨x2, h1, hf⟩ := br_s hf
  refine cVRi (As := [.int p2]) (rest := []) X G kc_X10_371 (tX10_isFrozen l E st _ hL  p2 h1) (rcv X G (hL 500 rfl) (cO10 rfl) rfl) rfl rfl (rmk_le (by omega) (by decide)) rfl hl.1 rfl (Nat.le_of_ble_eq_true rfl) dX10_canCall_2 ⟨Nat.zero_le _, Nat.zero_le _⟩ ?_
  refine lv_if_ne (tgt := 56) hx hb dX10_canCall_5 (by decide) (fun c3 => ?_) (fun c3 => ?_)
  · have hf := it_f hf c3
    refine lv_iconst (v := (0 : Int32)) hx hb dX10_canCall_56 (by decide) ?_
    exact rtRz X hlk hr rfl (so_i hf) dX10_canCall_57
  · have hf := it_t hf c3
    refine lv_aload_n hx hb dX10_canCall_8 rfl (lv_at hl 0 rfl) ?_
    refine gf10 X G (hL 500 rfl) rfl 8 (by decide) rfl kf_X10_31 iwX10 dX10_canCall_9 ?_
    refine lv_iload_n hx hb dX10_canCall_12 rfl (lv_at hl 1 rfl) ?_
    obtain ⟨h4, hf⟩ := gd_s hf
    refine ia_ld (k := 509) (n := 3) X G (hL 509 rfl) rfl (by decide) (ix_in h4) dX10_canCall_13 ?_
    refine lv_iload_n hx hb dX10_canCall_14 rfl (lv_at hl 2 rfl) ?_
    refine lv_icmp_eq (tgt := 36) hx hb dX10_canCall_15 (by decide) (fun c5 => ?_) (fun c5 => ?_)
    · have hf := it_t hf c5
      exact wX10_canCall_B36 hL X hr hlk G hf _ (lv_sub hl [0, 2] rfl)
    · have hf := it_f hf c5
      refine lv_aload_n hx hb dX10_canCall_18 rfl (lv_at hl 0 rfl) ?_
      refine gf10 X G (hL 500 rfl) rfl 6 (by decide) rfl kf_X10_25 iwX10 dX10_canCall_19 ?_
      refine lv_aload_n hx hb dX10_canCall_22 rfl (lv_at hl 0 rfl) ?_
      refine gf10 X G (hL 500 rfl) rfl 8 (by decide) rfl kf_X10_31 iwX10 dX10_canCall_23 ?_
      refine lv_iload_n hx hb dX10_canCall_26 rfl (lv_at hl 1 rfl) ?_
      obtain ⟨h6, hf⟩ := gd_s hf
      refine ia_ld (k := 509) (n := 3) X G (hL 509 rfl) rfl (by decide) (ix_in h6) dX10_canCall_27 ?_
      obtain ⟨h7, hf⟩ := gd_s hf
      refine ia_ld (k := 507) (n := 8) X G (hL 507 rfl) rfl (by decide) (ix_in h7) dX10_canCall_28 ?_
      refine lv_iload_n hx hb dX10_canCall_29 rfl (lv_at hl 2 rfl) ?_
      obtain ⟨x9, h8, hf⟩ := br_s hf
      refine cSRi (As := [.int (st.1 507 (st.1 509 p1.toNatClampNeg).toNatClampNeg), .int p2]) (rest := []) X G kc_X10_156 (tX10_has l E st _  (st.1 507 (st.1 509 p1.toNatClampNeg).toNatClampNeg) p2 h8) rfl rfl (rmk_le (by omega) (by decide)) rfl hl.1 rfl (Nat.le_of_ble_eq_true rfl) dX10_canCall_30 ⟨Nat.zero_le _, Nat.zero_le _⟩ ?_
      refine lv_if_eq (tgt := 56) hx hb dX10_canCall_33 (by decide) (fun c10 => ?_) (fun c10 => ?_)
      · have hf := it_t hf c10
        refine lv_iconst (v := (0 : Int32)) hx hb dX10_canCall_56 (by decide) ?_
        exact rtRz X hlk hr rfl (so_i hf) dX10_canCall_57
      · have hf := it_f hf c10
        exact wX10_canCall_B36 hL X hr hlk G hf _ (lv_sub hl [0, 2] rfl)
def fX10_calls (p1 : Int32) (p2 : Int32) (st : St) : Option (Int32 × St) := br (fX10_tenthOf st p1 p2) (fun x2 => gd (ix p1 3) (nm (ui st 509 p1.toNatClampNeg p2) (fun s4 => gd (ix p2 8) (nm (ui s4 508 p2.toNatClampNeg (s4.1 502 6)) (fun s7 => gd (ix p2 8) (gd (ix p2 8) (nm (ui s7 503 p2.toNatClampNeg ((s7.1 503 p2.toNatClampNeg) - x2)) (fun s10 => gd (ix p1 3) (gd (ix p1 3) (nm (ui s10 511 p1.toNatClampNeg ((s10.1 511 p1.toNatClampNeg) + x2)) (fun s13 => some (x2, s13))))))))))))
set_option maxRecDepth 100000 in
theorem tX10_calls (l : Launch) (E : Ev) (st : St) (sz : Nat) (hL : ∀ k, fxM k = true → k ∈ eL E) (p1 : Int32) (p2 : Int32) {res : (Int32 × St)} (hf : fX10_calls  p1 p2 st = some res) : Met l yX10_calls (.code yX10_calls cX10_calls 4 (some .int) :: uW) (rmk 1) (va_Pc [.ref (eq E 500), .int p1, .int p2] (Pre E st sz)) (QWi E res.2 sz res.1) 0 0 (Af E sz) := by
  refine Met_in (by decide) (Nat.le_of_ble_eq_true rfl) ?_
  intro p e s m below meth c X hr hlk hz G ls hl
  have hx := X.1.1
  have hb := X.1.2.1
  have hl : lv_has ls 4 [(0, .ref (eq E 500)), (1, .int p1), (2, .int p2)] := hl
  unfold fX10_calls at hf
  refine lv_aload_n hx hb dX10_calls_0 rfl (lv_at hl 0 rfl) ?_
  refine lv_iload_n hx hb dX10_calls_1 rfl (lv_at hl 1 rfl) ?_
  refine lv_iload_n hx hb dX10_calls_2 rfl (lv_at hl 2 rfl) ?_
  obtain ⟨x2, h1, hf⟩ := br_s hf
  refine cVRi (As := [.int p1, .int p2]) (rest := []) X G kc_X10_377 (tX10_tenthOf l E st _ hL  p1 p2 h1) (rcv X G (hL 500 rfl) (cO10 rfl) rfl) rfl rfl (rmk_le (by omega) (by decide)) rfl hl.1 rfl (Nat.le_of_ble_eq_true rfl) dX10_calls_3 ⟨Nat.zero_le _, Nat.zero_le _⟩ ?_
  refine lv_istore_n (lv' := [(3, .int x2), (0, .ref (eq E 500)), (1, .int p1), (2, .int p2)]) hx hb dX10_calls_6 rfl hl (by decide) rfl (fun ls hl => ?_)
  refine lv_aload_n hx hb dX10_calls_7 rfl (lv_at hl 1 rfl) ?_
  refine gf10 X G (hL 500 rfl) rfl 8 (by decide) rfl kf_X10_31 iwX10 dX10_calls_8 ?_
  refine lv_iload_n hx hb dX10_calls_11 rfl (lv_at hl 2 rfl) ?_
  refine lv_iload_n hx hb dX10_calls_12 rfl (lv_at hl 3 rfl) ?_
  obtain ⟨h3, hf⟩ := gd_s hf
  refine ia_st (k := 509) (n := 3) X G (hL 509 rfl) rfl (by decide) (ix_in h3) dX10_calls_13 (fun s4 es4 H locs G => ?_)
  have hf := nm_s hf s4 es4
  refine lv_aload_n hx hb dX10_calls_14 rfl (lv_at hl 1 rfl) ?_
  refine gf10 X G (hL 500 rfl) rfl 7 (by decide) rfl kf_X10_28 iwX10 dX10_calls_15 ?_
  refine lv_iload_n hx hb dX10_calls_18 rfl (lv_at hl 3 rfl) ?_
  refine lv_aload_n hx hb dX10_calls_19 rfl (lv_at hl 1 rfl) ?_
  refine gf10 X G (hL 500 rfl) rfl 1 (by decide) rfl kf_X10_9 iwX10 dX10_calls_20 ?_
  refine lv_bipush (v := (6 : Int32)) hx hb dX10_calls_23 (by decide) ?_
  refine ia_ldc (k := 502) (n := 12) X G (hL 502 rfl) rfl (by decide) 6 (by decide) dX10_calls_25 ?_
  obtain ⟨h6, hf⟩ := gd_s hf
  refine ia_st (k := 508) (n := 8) X G (hL 508 rfl) rfl (by decide) (ix_in h6) dX10_calls_26 (fun s7 es7 H locs G => ?_)
  have hf := nm_s hf s7 es7
  refine lv_aload_n hx hb dX10_calls_27 rfl (lv_at hl 1 rfl) ?_
  refine gf10 X G (hL 500 rfl) rfl 2 (by decide) rfl kf_X10_13 iwX10 dX10_calls_28 ?_
  refine lv_iload_n hx hb dX10_calls_31 rfl (lv_at hl 3 rfl) ?_
  refine lv_dup2_11 hx hb dX10_calls_32 rfl rfl ?_
  obtain ⟨h8, hf⟩ := gd_s hf
  refine ia_ld (k := 503) (n := 8) X G (hL 503 rfl) rfl (by decide) (ix_in h8) dX10_calls_33 ?_
  refine lv_iload_n hx hb dX10_calls_34 rfl (lv_at hl 0 rfl) ?_
  refine lv_isub hx hb dX10_calls_35 ?_
  obtain ⟨h9, hf⟩ := gd_s hf
  refine ia_st (k := 503) (n := 8) X G (hL 503 rfl) rfl (by decide) (ix_in h9) dX10_calls_36 (fun s10 es10 H locs G => ?_)
  have hf := nm_s hf s10 es10
  refine lv_aload_n hx hb dX10_calls_37 rfl (lv_at hl 1 rfl) ?_
  refine gf10 X G (hL 500 rfl) rfl 10 (by decide) rfl kf_X10_37 iwX10 dX10_calls_38 ?_
  refine lv_iload_n hx hb dX10_calls_41 rfl (lv_at hl 2 rfl) ?_
  refine lv_dup2_11 hx hb dX10_calls_42 rfl rfl ?_
  obtain ⟨h11, hf⟩ := gd_s hf
  refine ia_ld (k := 511) (n := 3) X G (hL 511 rfl) rfl (by decide) (ix_in h11) dX10_calls_43 ?_
  refine lv_iload_n hx hb dX10_calls_44 rfl (lv_at hl 0 rfl) ?_
  refine lv_iadd hx hb dX10_calls_45 ?_
  obtain ⟨h12, hf⟩ := gd_s hf
  refine ia_st (k := 511) (n := 3) X G (hL 511 rfl) rfl (by decide) (ix_in h12) dX10_calls_46 (fun s13 es13 H locs G => ?_)
  have hf := nm_s hf s13 es13
  refine lv_iload_n hx hb dX10_calls_47 rfl (lv_at hl 0 rfl) ?_
  exact rtWi X hlk G hr (so_i hf) dX10_calls_48
def fX10_sumOf_B178 (p1 : Int32) (p2 : Int32) (z0 : Int64) (z1 : Int32) (st : St) : Option (Int64 × St) := gd (ix z1 12) (nm (ul st 548 z1.toNatClampNeg z0) (fun s2 => nm (ul s2 548 10 (Int32.toInt64 (s2.1 502 6))) (fun s5 => br (fX10_bits (s5.1 502 7)) (fun x8 => nm (ul s5 548 11 (Int32.toInt64 x8)) (fun s10 => bw (fX10_wanted s10) (fun x13 s12 => some (x13, s12)))))))
set_option maxRecDepth 100000 in
theorem wX10_sumOf_B178 {p : Program} {l : Launch} {e : Env} {s : State} {m : MethodId} {args : Array Value} {below : List Frame} {meth : Method} {c : Code} {E : Ev} (hL : ∀ k, fxM k = true → k ∈ eL E) {p1 : Int32} {p2 : Int32} {sz : Nat} {res : (Int64 × St)} (X : CX p s m args c E RX10 cX10_sumOf 4 (Af E sz)) (hr : meth.sig.returnType = (some .long)) (hlk : meth.locks = false) : ∀ (z0 : Int64) (z1 : Int32) (st : St) (H : Heap) (locs : List Loc), fX10_sumOf_B178 p1 p2  z0 z1 st = some res → Gd E st (Af E sz) s H locs → ∀ ls : Array Slot, lv_has ls 4 [(0, .ref (eq E 500))] → W p l e (rmk 4) s m args below meth c H locs 0 0 (MQ below (QWl E res.2 sz res.1) args s 0 0 (Af E sz)) (F0 m 178 ls [.long z0, .int z1, .ref (eq E 548)]) := by
  have hx := X.1.1
  have hb := X.1.2.1
  intro z0 z1 st H locs hf G ls hl
  unfold fX10_sumOf_B178 at hf
  obtain ⟨h1, hf⟩ := gd_s hf
  refine la_st (k := 548) (n := 12) X G (hL 548 rfl) rfl (by decide) (ix_in h1) dX10_sumOf_178 (fun s2 es2 H locs G => ?_)
  have hf := nm_s hf s2 es2
  refine lv_aload_n hx hb dX10_sumOf_179 rfl (lv_at hl 0 rfl) ?_
  refine gf10 X G (hL 500 rfl) rfl 47 (by decide) rfl kf_X10_120 iwX10 dX10_sumOf_180 ?_
  refine lv_bipush (v := (10 : Int32)) hx hb dX10_sumOf_183 (by decide) ?_
  refine lv_aload_n hx hb dX10_sumOf_185 rfl (lv_at hl 0 rfl) ?_
  refine gf10 X G (hL 500 rfl) rfl 1 (by decide) rfl kf_X10_9 iwX10 dX10_sumOf_186 ?_
  refine lv_bipush (v := (6 : Int32)) hx hb dX10_sumOf_189 (by decide) ?_
  refine ia_ldc (k := 502) (n := 12) X G (hL 502 rfl) rfl (by decide) 6 (by decide) dX10_sumOf_191 ?_
  refine lv_i2l hx hb dX10_sumOf_192 rfl ?_
  refine la_stc (k := 548) (n := 12) X G (hL 548 rfl) rfl (by decide) 10 (by decide) dX10_sumOf_193 (fun s5 es5 H locs G => ?_)
  have hf := nm_s hf s5 es5
  refine lv_aload_n hx hb dX10_sumOf_194 rfl (lv_at hl 0 rfl) ?_
  refine gf10 X G (hL 500 rfl) rfl 47 (by decide) rfl kf_X10_120 iwX10 dX10_sumOf_195 ?_
  refine lv_bipush (v := (11 : Int32)) hx hb dX10_sumOf_198 (by decide) ?_
  refine lv_aload_n hx hb dX10_sumOf_200 rfl (lv_at hl 0 rfl) ?_
  refine gf10 X G (hL 500 rfl) rfl 1 (by decide) rfl kf_X10_9 iwX10 dX10_sumOf_201 ?_
  refine lv_bipush (v := (7 : Int32)) hx hb dX10_sumOf_204 (by decide) ?_
  refine ia_ldc (k := 502) (n := 12) X G (hL 502 rfl) rfl (by decide) 7 (by decide) dX10_sumOf_206 ?_
  obtain ⟨x8, h7, hf⟩ := br_s hf
  refine cSRi (As := [.int (s5.1 502 7)]) (rest := [.int (11 : Int32), .ref (eq E 548)]) X G kc_X10_380 (tX10_bits l E s5 _  (s5.1 502 7) h7) rfl rfl (rmk_le (by omega) (by decide)) rfl hl.1 rfl (Nat.le_of_ble_eq_true rfl) dX10_sumOf_207 ⟨Nat.zero_le _, Nat.zero_le _⟩ ?_
  refine lv_i2l hx hb dX10_sumOf_210 rfl ?_
  refine la_stc (k := 548) (n := 12) X G (hL 548 rfl) rfl (by decide) 11 (by decide) dX10_sumOf_211 (fun s10 es10 H locs G => ?_)
  have hf := nm_s hf s10 es10
  refine lv_aload_n hx hb dX10_sumOf_212 rfl (lv_at hl 0 rfl) ?_
  obtain ⟨x13, s12, h11, hf⟩ := bw_s hf
  refine cVWl (As := []) (rest := []) X G kc_X10_385 (tX10_wanted l E s10 _ hL   h11) (rcv X G (hL 500 rfl) (cO10 rfl) rfl) rfl rfl (rmk_le (by omega) (by decide)) rfl hl.1 rfl (Nat.le_of_ble_eq_true rfl) dX10_sumOf_213 ⟨Nat.zero_le _, Nat.zero_le _⟩ (fun H locs G => ?_)
  exact rtWl X hlk G hr (so_i hf) dX10_sumOf_216
def fX10_sumOf_B140 (p1 : Int32) (p2 : Int32) (y3 : Int32) (z0 : Int64) (z1 : Int32) (st : St) : Option (Int64 × St) := gd (ix z1 12) (nm (ul st 548 z1.toNatClampNeg z0) (fun s2 => gd (ix p2 8) (br (fX10_bits (s2.1 507 p2.toNatClampNeg)) (fun x5 => nm (ul s2 548 8 (Int32.toInt64 x5)) (fun s7 => if y3 ≤ (99 : Int32) then (fX10_sumOf_B178 p1 p2 (Int32.toInt64 y3) (9 : Int32) s7) else (fX10_sumOf_B178 p1 p2 (99 : Int64) (9 : Int32) s7))))))
set_option maxRecDepth 100000 in
theorem wX10_sumOf_B140 {p : Program} {l : Launch} {e : Env} {s : State} {m : MethodId} {args : Array Value} {below : List Frame} {meth : Method} {c : Code} {E : Ev} (hL : ∀ k, fxM k = true → k ∈ eL E) {p1 : Int32} {p2 : Int32} {sz : Nat} {res : (Int64 × St)} (X : CX p s m args c E RX10 cX10_sumOf 4 (Af E sz)) (hr : meth.sig.returnType = (some .long)) (hlk : meth.locks = false) : ∀ (y3 : Int32) (z0 : Int64) (z1 : Int32) (st : St) (H : Heap) (locs : List Loc), fX10_sumOf_B140 p1 p2  y3 z0 z1 st = some res → Gd E st (Af E sz) s H locs → ∀ ls : Array Slot, lv_has ls 4 [(0, .ref (eq E 500)), (2, .int p2), (3, .int y3)] → W p l e (rmk 4) s m args below meth c H locs 0 0 (MQ below (QWl E res.2 sz res.1) args s 0 0 (Af E sz)) (F0 m 140 ls [.long z0, .int z1, .ref (eq E 548)]) := by
  have hx := X.1.1
  have hb := X.1.2.1
  intro y3 z0 z1 st H locs hf G ls hl
  unfold fX10_sumOf_B140 at hf
  obtain ⟨h1, hf⟩ := gd_s hf
  refine la_st (k := 548) (n := 12) X G (hL 548 rfl) rfl (by decide) (ix_in h1) dX10_sumOf_140 (fun s2 es2 H locs G => ?_)
  have hf := nm_s hf s2 es2
  refine lv_aload_n hx hb dX10_sumOf_141 rfl (lv_at hl 0 rfl) ?_
  refine gf10 X G (hL 500 rfl) rfl 47 (by decide) rfl kf_X10_120 iwX10 dX10_sumOf_142 ?_
  refine lv_bipush (v := (8 : Int32)) hx hb dX10_sumOf_145 (by decide) ?_
  refine lv_aload_n hx hb dX10_sumOf_147 rfl (lv_at hl 0 rfl) ?_
  refine gf10 X G (hL 500 rfl) rfl 6 (by decide) rfl kf_X10_25 iwX10 dX10_sumOf_148 ?_
  refine lv_iload_n hx hb dX10_sumOf_151 rfl (lv_at hl 1 rfl) ?_
  obtain ⟨h3, hf⟩ := gd_s hf
  refine ia_ld (k := 507) (n := 8) X G (hL 507 rfl) rfl (by decide) (ix_in h3) dX10_sumOf_152 ?_
  obtain ⟨x5, h4, hf⟩ := br_s hf
  refine cSRi (As := [.int (s2.1 507 p2.toNatClampNeg)]) (rest := [.int (8 : Int32), .ref (eq E 548)]) X G kc_X10_380 (tX10_bits l E s2 _  (s2.1 507 p2.toNatClampNeg) h4) rfl rfl (rmk_le (by omega) (by decide)) rfl hl.1 rfl (Nat.le_of_ble_eq_true rfl) dX10_sumOf_153 ⟨Nat.zero_le _, Nat.zero_le _⟩ ?_
  refine lv_i2l hx hb dX10_sumOf_156 rfl ?_
  refine la_stc (k := 548) (n := 12) X G (hL 548 rfl) rfl (by decide) 8 (by decide) dX10_sumOf_157 (fun s7 es7 H locs G => ?_)
  have hf := nm_s hf s7 es7
  refine lv_aload_n hx hb dX10_sumOf_158 rfl (lv_at hl 0 rfl) ?_
  refine gf10 X G (hL 500 rfl) rfl 47 (by decide) rfl kf_X10_120 iwX10 dX10_sumOf_159 ?_
  refine lv_bipush (v := (9 : Int32)) hx hb dX10_sumOf_162 (by decide) ?_
  refine lv_iload_n hx hb dX10_sumOf_164 rfl (lv_at hl 2 rfl) ?_
  refine lv_bipush (v := (99 : Int32)) hx hb dX10_sumOf_165 (by decide) ?_
  refine lv_icmp_le (tgt := 176) hx hb dX10_sumOf_167 (by decide) (fun c8 => ?_) (fun c8 => ?_)
  · have hf := it_t hf c8
    refine lv_iload_n hx hb dX10_sumOf_176 rfl (lv_at hl 2 rfl) ?_
    refine lv_i2l hx hb dX10_sumOf_177 rfl ?_
    exact wX10_sumOf_B178 hL X hr hlk (Int32.toInt64 y3) (9 : Int32) s7 _ _ hf G _ (lv_sub hl [0] rfl)
  · have hf := it_f hf c8
    refine lv_ldc2 (v := (99 : Int64)) hx hb X.1.2.2.2.1 (X.1.2.2.2.2 _ kk_X10_383) dX10_sumOf_170 ?_
    refine lv_goto (tgt := 178) hx hb dX10_sumOf_173 (by decide) ?_
    exact wX10_sumOf_B178 hL X hr hlk (99 : Int64) (9 : Int32) s7 _ _ hf G _ (lv_sub hl [0] rfl)
def fX10_sumOf_B29 (p1 : Int32) (p2 : Int32) (z0 : Int32) (st : St) : Option (Int64 × St) := nm (ul st 548 0 (Int32.toInt64 p1)) (fun s2 => nm (ul s2 548 1 (Int32.toInt64 p2)) (fun s4 => gd (ix p2 8) (nm (ul s4 548 2 (Int32.toInt64 (s4.1 503 p2.toNatClampNeg))) (fun s7 => gd (ix p2 8) (nm (ul s7 548 3 (Int32.toInt64 (s7.1 504 p2.toNatClampNeg))) (fun s10 => gd (ix p2 8) (nm (ul s10 548 4 (Int32.toInt64 (s10.1 505 p2.toNatClampNeg))) (fun s13 => br (fX10_tenthOf s13 p1 p2) (fun x15 => nm (ul s13 548 5 (Int32.toInt64 x15)) (fun s17 => gd (ix p1 3) (gd (ix p1 3) (nm (ul s17 548 6 (Int32.toInt64 ((s17.1 510 p1.toNatClampNeg) - (s17.1 511 p1.toNatClampNeg)))) (fun s21 => gd (ix p1 3) (if (s21.1 509 p1.toNatClampNeg) = p2 then (fX10_sumOf_B140 p1 p2 z0 (1 : Int64) (7 : Int32) s21) else (fX10_sumOf_B140 p1 p2 z0 (0 : Int64) (7 : Int32) s21)))))))))))))))
set_option maxRecDepth 100000 in
theorem wX10_sumOf_B29 {p : Program} {l : Launch} {e : Env} {s : State} {m : MethodId} {args : Array Value} {below : List Frame} {meth : Method} {c : Code} {E : Ev} (hL : ∀ k, fxM k = true → k ∈ eL E) {p1 : Int32} {p2 : Int32} {sz : Nat} {res : (Int64 × St)} (X : CX p s m args c E RX10 cX10_sumOf 4 (Af E sz)) (hr : meth.sig.returnType = (some .long)) (hlk : meth.locks = false) : ∀ (z0 : Int32) (st : St) (H : Heap) (locs : List Loc), fX10_sumOf_B29 p1 p2  z0 st = some res → Gd E st (Af E sz) s H locs → ∀ ls : Array Slot, lv_has ls 4 [(0, .ref (eq E 500)), (1, .int p1), (2, .int p2)] → W p l e (rmk 4) s m args below meth c H locs 0 0 (MQ below (QWl E res.2 sz res.1) args s 0 0 (Af E sz)) (F0 m 29 ls [.int z0]) := by
  have hx := X.1.1
  have hb := X.1.2.1
  intro z0 st H locs hf G ls hl
  unfold fX10_sumOf_B29 at hf
  refine lv_istore_n (lv' := [(3, .int z0), (0, .ref (eq E 500)), (1, .int p1), (2, .int p2)]) hx hb dX10_sumOf_29 rfl hl (by decide) rfl (fun ls hl => ?_)
  refine lv_aload_n hx hb dX10_sumOf_30 rfl (lv_at hl 1 rfl) ?_
  refine gf10 X G (hL 500 rfl) rfl 47 (by decide) rfl kf_X10_120 iwX10 dX10_sumOf_31 ?_
  refine lv_iconst (v := (0 : Int32)) hx hb dX10_sumOf_34 (by decide) ?_
  refine lv_iload_n hx hb dX10_sumOf_35 rfl (lv_at hl 2 rfl) ?_
  refine lv_i2l hx hb dX10_sumOf_36 rfl ?_
  refine la_stc (k := 548) (n := 12) X G (hL 548 rfl) rfl (by decide) 0 (by decide) dX10_sumOf_37 (fun s2 es2 H locs G => ?_)
  have hf := nm_s hf s2 es2
  refine lv_aload_n hx hb dX10_sumOf_38 rfl (lv_at hl 1 rfl) ?_
  refine gf10 X G (hL 500 rfl) rfl 47 (by decide) rfl kf_X10_120 iwX10 dX10_sumOf_39 ?_
  refine lv_iconst (v := (1 : Int32)) hx hb dX10_sumOf_42 (by decide) ?_
  refine lv_iload_n hx hb dX10_sumOf_43 rfl (lv_at hl 3 rfl) ?_
  refine lv_i2l hx hb dX10_sumOf_44 rfl ?_
  refine la_stc (k := 548) (n := 12) X G (hL 548 rfl) rfl (by decide) 1 (by decide) dX10_sumOf_45 (fun s4 es4 H locs G => ?_)
  have hf := nm_s hf s4 es4
  refine lv_aload_n hx hb dX10_sumOf_46 rfl (lv_at hl 1 rfl) ?_
  refine gf10 X G (hL 500 rfl) rfl 47 (by decide) rfl kf_X10_120 iwX10 dX10_sumOf_47 ?_
  refine lv_iconst (v := (2 : Int32)) hx hb dX10_sumOf_50 (by decide) ?_
  refine lv_aload_n hx hb dX10_sumOf_51 rfl (lv_at hl 1 rfl) ?_
  refine gf10 X G (hL 500 rfl) rfl 2 (by decide) rfl kf_X10_13 iwX10 dX10_sumOf_52 ?_
  refine lv_iload_n hx hb dX10_sumOf_55 rfl (lv_at hl 3 rfl) ?_
  obtain ⟨h5, hf⟩ := gd_s hf
  refine ia_ld (k := 503) (n := 8) X G (hL 503 rfl) rfl (by decide) (ix_in h5) dX10_sumOf_56 ?_
  refine lv_i2l hx hb dX10_sumOf_57 rfl ?_
  refine la_stc (k := 548) (n := 12) X G (hL 548 rfl) rfl (by decide) 2 (by decide) dX10_sumOf_58 (fun s7 es7 H locs G => ?_)
  have hf := nm_s hf s7 es7
  refine lv_aload_n hx hb dX10_sumOf_59 rfl (lv_at hl 1 rfl) ?_
  refine gf10 X G (hL 500 rfl) rfl 47 (by decide) rfl kf_X10_120 iwX10 dX10_sumOf_60 ?_
  refine lv_iconst (v := (3 : Int32)) hx hb dX10_sumOf_63 (by decide) ?_
  refine lv_aload_n hx hb dX10_sumOf_64 rfl (lv_at hl 1 rfl) ?_
  refine gf10 X G (hL 500 rfl) rfl 3 (by decide) rfl kf_X10_16 iwX10 dX10_sumOf_65 ?_
  refine lv_iload_n hx hb dX10_sumOf_68 rfl (lv_at hl 3 rfl) ?_
  obtain ⟨h8, hf⟩ := gd_s hf
  refine ia_ld (k := 504) (n := 8) X G (hL 504 rfl) rfl (by decide) (ix_in h8) dX10_sumOf_69 ?_
  refine lv_i2l hx hb dX10_sumOf_70 rfl ?_
  refine la_stc (k := 548) (n := 12) X G (hL 548 rfl) rfl (by decide) 3 (by decide) dX10_sumOf_71 (fun s10 es10 H locs G => ?_)
  have hf := nm_s hf s10 es10
  refine lv_aload_n hx hb dX10_sumOf_72 rfl (lv_at hl 1 rfl) ?_
  refine gf10 X G (hL 500 rfl) rfl 47 (by decide) rfl kf_X10_120 iwX10 dX10_sumOf_73 ?_
  refine lv_iconst (v := (4 : Int32)) hx hb dX10_sumOf_76 (by decide) ?_
  refine lv_aload_n hx hb dX10_sumOf_77 rfl (lv_at hl 1 rfl) ?_
  refine gf10 X G (hL 500 rfl) rfl 4 (by decide) rfl kf_X10_19 iwX10 dX10_sumOf_78 ?_
  refine lv_iload_n hx hb dX10_sumOf_81 rfl (lv_at hl 3 rfl) ?_
  obtain ⟨h11, hf⟩ := gd_s hf
  refine ia_ld (k := 505) (n := 8) X G (hL 505 rfl) rfl (by decide) (ix_in h11) dX10_sumOf_82 ?_
  refine lv_i2l hx hb dX10_sumOf_83 rfl ?_
  refine la_stc (k := 548) (n := 12) X G (hL 548 rfl) rfl (by decide) 4 (by decide) dX10_sumOf_84 (fun s13 es13 H locs G => ?_)
  have hf := nm_s hf s13 es13
  refine lv_aload_n hx hb dX10_sumOf_85 rfl (lv_at hl 1 rfl) ?_
  refine gf10 X G (hL 500 rfl) rfl 47 (by decide) rfl kf_X10_120 iwX10 dX10_sumOf_86 ?_
  refine lv_iconst (v := (5 : Int32)) hx hb dX10_sumOf_89 (by decide) ?_
  refine lv_aload_n hx hb dX10_sumOf_90 rfl (lv_at hl 1 rfl) ?_
  refine lv_iload_n hx hb dX10_sumOf_91 rfl (lv_at hl 2 rfl) ?_
  refine lv_iload_n hx hb dX10_sumOf_92 rfl (lv_at hl 3 rfl) ?_
  obtain ⟨x15, h14, hf⟩ := br_s hf
  refine cVRi (As := [.int p1, .int p2]) (rest := [.int (5 : Int32), .ref (eq E 548)]) X G kc_X10_377 (tX10_tenthOf l E s13 _ hL  p1 p2 h14) (rcv X G (hL 500 rfl) (cO10 rfl) rfl) rfl rfl (rmk_le (by omega) (by decide)) rfl hl.1 rfl (Nat.le_of_ble_eq_true rfl) dX10_sumOf_93 ⟨Nat.zero_le _, Nat.zero_le _⟩ ?_
  refine lv_i2l hx hb dX10_sumOf_96 rfl ?_
  refine la_stc (k := 548) (n := 12) X G (hL 548 rfl) rfl (by decide) 5 (by decide) dX10_sumOf_97 (fun s17 es17 H locs G => ?_)
  have hf := nm_s hf s17 es17
  refine lv_aload_n hx hb dX10_sumOf_98 rfl (lv_at hl 1 rfl) ?_
  refine gf10 X G (hL 500 rfl) rfl 47 (by decide) rfl kf_X10_120 iwX10 dX10_sumOf_99 ?_
  refine lv_bipush (v := (6 : Int32)) hx hb dX10_sumOf_102 (by decide) ?_
  refine lv_aload_n hx hb dX10_sumOf_104 rfl (lv_at hl 1 rfl) ?_
  refine gf10 X G (hL 500 rfl) rfl 9 (by decide) rfl kf_X10_34 iwX10 dX10_sumOf_105 ?_
  refine lv_iload_n hx hb dX10_sumOf_108 rfl (lv_at hl 2 rfl) ?_
  obtain ⟨h18, hf⟩ := gd_s hf
  refine ia_ld (k := 510) (n := 3) X G (hL 510 rfl) rfl (by decide) (ix_in h18) dX10_sumOf_109 ?_
  refine lv_aload_n hx hb dX10_sumOf_110 rfl (lv_at hl 1 rfl) ?_
  refine gf10 X G (hL 500 rfl) rfl 10 (by decide) rfl kf_X10_37 iwX10 dX10_sumOf_111 ?_
  refine lv_iload_n hx hb dX10_sumOf_114 rfl (lv_at hl 2 rfl) ?_
  obtain ⟨h19, hf⟩ := gd_s hf
  refine ia_ld (k := 511) (n := 3) X G (hL 511 rfl) rfl (by decide) (ix_in h19) dX10_sumOf_115 ?_
  refine lv_isub hx hb dX10_sumOf_116 ?_
  refine lv_i2l hx hb dX10_sumOf_117 rfl ?_
  refine la_stc (k := 548) (n := 12) X G (hL 548 rfl) rfl (by decide) 6 (by decide) dX10_sumOf_118 (fun s21 es21 H locs G => ?_)
  have hf := nm_s hf s21 es21
  refine lv_aload_n hx hb dX10_sumOf_119 rfl (lv_at hl 1 rfl) ?_
  refine gf10 X G (hL 500 rfl) rfl 47 (by decide) rfl kf_X10_120 iwX10 dX10_sumOf_120 ?_
  refine lv_bipush (v := (7 : Int32)) hx hb dX10_sumOf_123 (by decide) ?_
  refine lv_aload_n hx hb dX10_sumOf_125 rfl (lv_at hl 1 rfl) ?_
  refine gf10 X G (hL 500 rfl) rfl 8 (by decide) rfl kf_X10_31 iwX10 dX10_sumOf_126 ?_
  refine lv_iload_n hx hb dX10_sumOf_129 rfl (lv_at hl 2 rfl) ?_
  obtain ⟨h22, hf⟩ := gd_s hf
  refine ia_ld (k := 509) (n := 3) X G (hL 509 rfl) rfl (by decide) (ix_in h22) dX10_sumOf_130 ?_
  refine lv_iload_n hx hb dX10_sumOf_131 rfl (lv_at hl 3 rfl) ?_
  refine lv_icmp_ne (tgt := 139) hx hb dX10_sumOf_132 (by decide) (fun c23 => ?_) (fun c23 => ?_)
  · have hf := it_f hf c23
    refine lv_lconst (v := (0 : Int64)) hx hb dX10_sumOf_139 (by decide) ?_
    exact wX10_sumOf_B140 hL X hr hlk z0 (0 : Int64) (7 : Int32) s21 _ _ hf G _ (lv_sub hl [1, 3, 0] rfl)
  · have hf := it_t hf c23
    refine lv_lconst (v := (1 : Int64)) hx hb dX10_sumOf_135 (by decide) ?_
    refine lv_goto (tgt := 140) hx hb dX10_sumOf_136 (by decide) ?_
    exact wX10_sumOf_B140 hL X hr hlk z0 (1 : Int64) (7 : Int32) s21 _ _ hf G _ (lv_sub hl [1, 3, 0] rfl)
def fX10_sumOf (p1 : Int32) (p2 : Int32) (st : St) : Option (Int64 × St) := gd (ix p2 8) (if (st.1 508 p2.toNatClampNeg) = (-1 : Int32) then (fX10_sumOf_B29 p1 p2 (99 : Int32) st) else (gd (ix p2 8) (fX10_sumOf_B29 p1 p2 ((st.1 502 6) - (st.1 508 p2.toNatClampNeg)) st)))
set_option maxRecDepth 100000 in
theorem tX10_sumOf (l : Launch) (E : Ev) (st : St) (sz : Nat) (hL : ∀ k, fxM k = true → k ∈ eL E) (p1 : Int32) (p2 : Int32) {res : (Int64 × St)} (hf : fX10_sumOf  p1 p2 st = some res) : Met l yX10_sumOf (.code yX10_sumOf cX10_sumOf 4 (some .long) :: uW) (rmk 4) (va_Pc [.ref (eq E 500), .int p1, .int p2] (Pre E st sz)) (QWl E res.2 sz res.1) 0 0 (Af E sz) := by
  refine Met_in (by decide) (Nat.le_of_ble_eq_true rfl) ?_
  intro p e s m below meth c X hr hlk hz G ls hl
  have hx := X.1.1
  have hb := X.1.2.1
  have hl : lv_has ls 4 [(0, .ref (eq E 500)), (1, .int p1), (2, .int p2)] := hl
  unfold fX10_sumOf at hf
  refine lv_aload_n hx hb dX10_sumOf_0 rfl (lv_at hl 0 rfl) ?_
  refine gf10 X G (hL 500 rfl) rfl 7 (by decide) rfl kf_X10_28 iwX10 dX10_sumOf_1 ?_
  refine lv_iload_n hx hb dX10_sumOf_4 rfl (lv_at hl 2 rfl) ?_
  obtain ⟨h1, hf⟩ := gd_s hf
  refine ia_ld (k := 508) (n := 8) X G (hL 508 rfl) rfl (by decide) (ix_in h1) dX10_sumOf_5 ?_
  refine lv_iconst (v := (-1 : Int32)) hx hb dX10_sumOf_6 (by decide) ?_
  refine lv_icmp_ne (tgt := 15) hx hb dX10_sumOf_7 (by decide) (fun c2 => ?_) (fun c2 => ?_)
  · have hf := it_f hf c2
    refine lv_aload_n hx hb dX10_sumOf_15 rfl (lv_at hl 0 rfl) ?_
    refine gf10 X G (hL 500 rfl) rfl 1 (by decide) rfl kf_X10_9 iwX10 dX10_sumOf_16 ?_
    refine lv_bipush (v := (6 : Int32)) hx hb dX10_sumOf_19 (by decide) ?_
    refine ia_ldc (k := 502) (n := 12) X G (hL 502 rfl) rfl (by decide) 6 (by decide) dX10_sumOf_21 ?_
    refine lv_aload_n hx hb dX10_sumOf_22 rfl (lv_at hl 0 rfl) ?_
    refine gf10 X G (hL 500 rfl) rfl 7 (by decide) rfl kf_X10_28 iwX10 dX10_sumOf_23 ?_
    refine lv_iload_n hx hb dX10_sumOf_26 rfl (lv_at hl 2 rfl) ?_
    obtain ⟨h4, hf⟩ := gd_s hf
    refine ia_ld (k := 508) (n := 8) X G (hL 508 rfl) rfl (by decide) (ix_in h4) dX10_sumOf_27 ?_
    refine lv_isub hx hb dX10_sumOf_28 ?_
    exact wX10_sumOf_B29 hL X hr hlk ((st.1 502 6) - (st.1 508 p2.toNatClampNeg)) st _ _ hf G _ (lv_sub hl [0, 1, 2] rfl)
  · have hf := it_t hf c2
    refine lv_bipush (v := (99 : Int32)) hx hb dX10_sumOf_10 (by decide) ?_
    refine lv_goto (tgt := 29) hx hb dX10_sumOf_12 (by decide) ?_
    exact wX10_sumOf_B29 hL X hr hlk (99 : Int32) st _ _ hf G _ (lv_sub hl [0, 1, 2] rfl)
def fX10_callsBy_L7 (p1 : Int32) : Nat → Int32 → Int64 → Int32 → St → Option (Int32 × St)
  | 0, _, _, _, _ => none
  | n + 1, y2, y3, y5, st => if (st.1 502 3) ≤ y5 then (if y2 = (-1 : Int32) then (some ((0 : Int32), st)) else (bw (fX10_calls p1 y2 st) (fun x6 s5 => some (x6, s5)))) else (br (fX10_canCall st p1 y5) (fun x4 => if x4 = 0 then (nm (y5 + (1 : Int32)) (fun x6 => (fX10_callsBy_L7 p1 n) y2 y3 x6 st)) else (bw (fX10_sumOf p1 y5 st) (fun x8 s7 => if (lg_cmp x8 y3) ≤ 0 then (nm (y5 + (1 : Int32)) (fun x10 => (fX10_callsBy_L7 p1 n) y2 y3 x10 s7)) else (nm (y5 + (1 : Int32)) (fun x10 => (fX10_callsBy_L7 p1 n) y5 x8 x10 s7))))))
set_option maxRecDepth 100000 in
theorem wX10_callsBy_L7 {p : Program} {l : Launch} {e : Env} {s : State} {m : MethodId} {args : Array Value} {below : List Frame} {meth : Method} {c : Code} {E : Ev} (hL : ∀ k, fxM k = true → k ∈ eL E) {p1 : Int32} {sz : Nat} {res : (Int32 × St)} (X : CX p s m args c E RX10 cX10_callsBy 8 (Af E sz)) (hr : meth.sig.returnType = (some .int)) (hlk : meth.locks = false) : ∀ (n : Nat) (y2 : Int32) (y3 : Int64) (y5 : Int32) (st : St) (H : Heap) (locs : List Loc), fX10_callsBy_L7 p1  n y2 y3 y5 st = some res → Gd E st (Af E sz) s H locs → ∀ ls : Array Slot, lv_has ls 8 [(0, .ref (eq E 500)), (1, .int p1), (2, .int y2), (3, .long y3), (5, .int y5)] → W p l e (rmk 5) s m args below meth c H locs 0 0 (MQ below (QWi E res.2 sz res.1) args s 0 0 (Af E sz)) (F0 m 7 ls []) := by
  have hx := X.1.1
  have hb := X.1.2.1
  intro n
  induction n with
  | zero =>
    intro y2 y3 y5 st H locs hf G ls hl
    cases (show (none : Option (Int32 × St)) = some res from hf)
  | succ n ih =>
    intro y2 y3 y5 st H locs hf G ls hl
    rw [fX10_callsBy_L7] at hf
    refine lv_iload hx hb dX10_callsBy_7 (lv_at hl 4 rfl) ?_
    refine lv_aload_n hx hb dX10_callsBy_9 rfl (lv_at hl 0 rfl) ?_
    refine gf10 X G (hL 500 rfl) rfl 1 (by decide) rfl kf_X10_9 iwX10 dX10_callsBy_10 ?_
    refine lv_iconst (v := (3 : Int32)) hx hb dX10_callsBy_13 (by decide) ?_
    refine ia_ldc (k := 502) (n := 12) X G (hL 502 rfl) rfl (by decide) 3 (by decide) dX10_callsBy_14 ?_
    refine lv_icmp_ge (tgt := 56) hx hb dX10_callsBy_15 (by decide) (fun c2 => ?_) (fun c2 => ?_)
    · have hf := it_t hf c2
      refine lv_iload_n hx hb dX10_callsBy_56 rfl (lv_at hl 2 rfl) ?_
      refine lv_iconst (v := (-1 : Int32)) hx hb dX10_callsBy_57 (by decide) ?_
      refine lv_icmp_ne (tgt := 65) hx hb dX10_callsBy_58 (by decide) (fun c3 => ?_) (fun c3 => ?_)
      · have hf := it_f hf c3
        refine lv_aload_n hx hb dX10_callsBy_65 rfl (lv_at hl 0 rfl) ?_
        refine lv_iload_n hx hb dX10_callsBy_66 rfl (lv_at hl 1 rfl) ?_
        refine lv_iload_n hx hb dX10_callsBy_67 rfl (lv_at hl 2 rfl) ?_
        obtain ⟨x6, s5, h4, hf⟩ := bw_s hf
        refine cVWi (As := [.int p1, .int y2]) (rest := []) X G kc_X10_396 (tX10_calls l E st _ hL  p1 y2 h4) (rcv X G (hL 500 rfl) (cO10 rfl) rfl) rfl rfl (rmk_le (by omega) (by decide)) rfl hl.1 rfl (Nat.le_of_ble_eq_true rfl) dX10_callsBy_68 ⟨Nat.zero_le _, Nat.zero_le _⟩ (fun H locs G => ?_)
        exact rtWi X hlk G hr (so_i hf) dX10_callsBy_71
      · have hf := it_t hf c3
        refine lv_iconst (v := (0 : Int32)) hx hb dX10_callsBy_61 (by decide) ?_
        refine lv_goto (tgt := 71) hx hb dX10_callsBy_62 (by decide) ?_
        exact rtWi X hlk G hr (so_i hf) dX10_callsBy_71
    · have hf := it_f hf c2
      refine lv_aload_n hx hb dX10_callsBy_18 rfl (lv_at hl 0 rfl) ?_
      refine lv_iload_n hx hb dX10_callsBy_19 rfl (lv_at hl 1 rfl) ?_
      refine lv_iload hx hb dX10_callsBy_20 (lv_at hl 4 rfl) ?_
      obtain ⟨x4, h3, hf⟩ := br_s hf
      refine cVRi (As := [.int p1, .int y5]) (rest := []) X G kc_X10_389 (tX10_canCall l E st _ hL  p1 y5 h3) (rcv X G (hL 500 rfl) (cO10 rfl) rfl) rfl rfl (rmk_le (by omega) (by decide)) rfl hl.1 rfl (Nat.le_of_ble_eq_true rfl) dX10_callsBy_22 ⟨Nat.zero_le _, Nat.zero_le _⟩ ?_
      refine lv_if_eq (tgt := 50) hx hb dX10_callsBy_25 (by decide) (fun c5 => ?_) (fun c5 => ?_)
      · have hf := it_t hf c5
        obtain ⟨x6, ex6⟩ : ∃ y : Int32, y = (y5 + (1 : Int32)) := ⟨_, rfl⟩
        have hf := nm_s hf x6 ex6
        refine lv_iinc (k := 4) (v := x6) (lv' := [(5, .int x6), (0, .ref (eq E 500)), (1, .int p1), (2, .int y2), (3, .long y3)]) hx hb dX10_callsBy_50 hl rfl (by rw [ex6]; rfl) (by decide) rfl (fun ls hl => ?_)
        refine lv_goto (tgt := 7) hx hb dX10_callsBy_53 (by decide) ?_
        exact ih y2 y3 x6 st _ _ hf G _ (lv_sub hl [1, 2, 3, 4, 0] rfl)
      · have hf := it_f hf c5
        refine lv_aload_n hx hb dX10_callsBy_28 rfl (lv_at hl 0 rfl) ?_
        refine lv_iload_n hx hb dX10_callsBy_29 rfl (lv_at hl 1 rfl) ?_
        refine lv_iload hx hb dX10_callsBy_30 (lv_at hl 4 rfl) ?_
        obtain ⟨x8, s7, h6, hf⟩ := bw_s hf
        refine cVWl (As := [.int p1, .int y5]) (rest := []) X G kc_X10_392 (tX10_sumOf l E st _ hL  p1 y5 h6) (rcv X G (hL 500 rfl) (cO10 rfl) rfl) rfl rfl (rmk_le (by omega) (by decide)) rfl hl.1 rfl (Nat.le_of_ble_eq_true rfl) dX10_callsBy_32 ⟨Nat.zero_le _, Nat.zero_le _⟩ (fun H locs G => ?_)
        refine lv_lstore (lv' := [(6, .long x8), (0, .ref (eq E 500)), (1, .int p1), (2, .int y2), (3, .long y3), (5, .int y5)]) hx hb dX10_callsBy_35 hl (by decide) rfl (fun ls hl => ?_)
        refine lv_lload hx hb dX10_callsBy_37 (lv_at hl 0 rfl) ?_
        refine lv_lload_n hx hb dX10_callsBy_39 rfl (lv_at hl 4 rfl) ?_
        refine W.lcmp hx hb dX10_callsBy_40 ?_
        refine lv_if_le (tgt := 50) hx hb dX10_callsBy_41 (by decide) (fun c9 => ?_) (fun c9 => ?_)
        · have hf := it_t hf c9
          obtain ⟨x10, ex10⟩ : ∃ y : Int32, y = (y5 + (1 : Int32)) := ⟨_, rfl⟩
          have hf := nm_s hf x10 ex10
          refine lv_iinc (k := 5) (v := x10) (lv' := [(5, .int x10), (6, .long x8), (0, .ref (eq E 500)), (1, .int p1), (2, .int y2), (3, .long y3)]) hx hb dX10_callsBy_50 hl rfl (by rw [ex10]; rfl) (by decide) rfl (fun ls hl => ?_)
          refine lv_goto (tgt := 7) hx hb dX10_callsBy_53 (by decide) ?_
          exact ih y2 y3 x10 s7 _ _ hf G _ (lv_sub hl [2, 3, 4, 5, 0] rfl)
        · have hf := it_f hf c9
          refine lv_iload hx hb dX10_callsBy_44 (lv_at hl 5 rfl) ?_
          refine lv_istore_n (lv' := [(2, .int y5), (6, .long x8), (0, .ref (eq E 500)), (1, .int p1), (3, .long y3), (5, .int y5)]) hx hb dX10_callsBy_46 rfl hl (by decide) rfl (fun ls hl => ?_)
          refine lv_lload hx hb dX10_callsBy_47 (lv_at hl 1 rfl) ?_
          refine lv_lstore_n (lv' := [(3, .long x8), (2, .int y5), (6, .long x8), (0, .ref (eq E 500)), (1, .int p1), (5, .int y5)]) hx hb dX10_callsBy_49 rfl hl (by decide) rfl (fun ls hl => ?_)
          obtain ⟨x10, ex10⟩ : ∃ y : Int32, y = (y5 + (1 : Int32)) := ⟨_, rfl⟩
          have hf := nm_s hf x10 ex10
          refine lv_iinc (k := 5) (v := x10) (lv' := [(5, .int x10), (3, .long x8), (2, .int y5), (6, .long x8), (0, .ref (eq E 500)), (1, .int p1)]) hx hb dX10_callsBy_50 hl rfl (by rw [ex10]; rfl) (by decide) rfl (fun ls hl => ?_)
          refine lv_goto (tgt := 7) hx hb dX10_callsBy_53 (by decide) ?_
          exact ih y5 x8 x10 s7 _ _ hf G _ (lv_sub hl [4, 5, 2, 1, 0] rfl)
def fX10_callsBy (p1 : Int32) (st : St) : Option (Int32 × St) := fX10_callsBy_L7 p1 10000 (-1 : Int32) (0 : Int64) (0 : Int32) st
set_option maxRecDepth 100000 in
theorem tX10_callsBy (l : Launch) (E : Ev) (st : St) (sz : Nat) (hL : ∀ k, fxM k = true → k ∈ eL E) (p1 : Int32) {res : (Int32 × St)} (hf : fX10_callsBy  p1 st = some res) : Met l yX10_callsBy (.code yX10_callsBy cX10_callsBy 8 (some .int) :: uW) (rmk 5) (va_Pc [.ref (eq E 500), .int p1] (Pre E st sz)) (QWi E res.2 sz res.1) 0 0 (Af E sz) := by
  refine Met_in (by decide) (Nat.le_of_ble_eq_true rfl) ?_
  intro p e s m below meth c X hr hlk hz G ls hl
  have hx := X.1.1
  have hb := X.1.2.1
  have hl : lv_has ls 8 [(0, .ref (eq E 500)), (1, .int p1)] := hl
  unfold fX10_callsBy at hf
  refine lv_iconst (v := (-1 : Int32)) hx hb dX10_callsBy_0 (by decide) ?_
  refine lv_istore_n (lv' := [(2, .int (-1 : Int32)), (0, .ref (eq E 500)), (1, .int p1)]) hx hb dX10_callsBy_1 rfl hl (by decide) rfl (fun ls hl => ?_)
  refine lv_lconst (v := (0 : Int64)) hx hb dX10_callsBy_2 (by decide) ?_
  refine lv_lstore_n (lv' := [(3, .long (0 : Int64)), (2, .int (-1 : Int32)), (0, .ref (eq E 500)), (1, .int p1)]) hx hb dX10_callsBy_3 rfl hl (by decide) rfl (fun ls hl => ?_)
  refine lv_iconst (v := (0 : Int32)) hx hb dX10_callsBy_4 (by decide) ?_
  refine lv_istore (lv' := [(5, .int (0 : Int32)), (3, .long (0 : Int64)), (2, .int (-1 : Int32)), (0, .ref (eq E 500)), (1, .int p1)]) hx hb dX10_callsBy_5 hl (by decide) rfl (fun ls hl => ?_)
  exact wX10_callsBy_L7 hL X hr hlk 10000 (-1 : Int32) (0 : Int64) (0 : Int32) st _ _ hf G _ (lv_sub hl [3, 4, 2, 1, 0] rfl)
def fX10_burns_B164 (k34 : Int32 → Int32 → St → Option St) (y1 : Int32) (y2 : Int32) (z0 : Int32) (z1 : Int32) (z2 : Int32) (st : St) : Option St := gd (ix z2 12) (nm (ui st 502 z2.toNatClampNeg (z1 ||| z0)) (fun s2 => nm (y2 + (1 : Int32)) (fun x3 => k34 y1 x3 s2)))
set_option maxRecDepth 100000 in
theorem wX10_burns_B164 {p : Program} {l : Launch} {e : Env} {s : State} {m : MethodId} {args : Array Value} {below : List Frame} {meth : Method} {c : Code} {E : Ev} (hL : ∀ k, fxM k = true → k ∈ eL E) {sz : Nat} {res : St} (X : CX p s m args c E RX10 cX10_burns 4 (Af E sz)) (hr : meth.sig.returnType = none) (hlk : meth.locks = false) {k34 : Int32 → Int32 → St → Option St} (hk34 : ∀ (y1 : Int32) (y2 : Int32) (st : St) (H : Heap) (locs : List Loc), k34 y1 y2 st = some res → Gd E st (Af E sz) s H locs → ∀ ls : Array Slot, lv_has ls 4 [(0, .ref (eq E 500)), (1, .int y1), (2, .int y2)] → W p l e (rmk 2) s m args below meth c H locs 0 0 (MQ below (QWv E res sz) args s 0 0 (Af E sz)) (F0 m 34 ls [])) : ∀ (y1 : Int32) (y2 : Int32) (z0 : Int32) (z1 : Int32) (z2 : Int32) (st : St) (H : Heap) (locs : List Loc), fX10_burns_B164  k34 y1 y2 z0 z1 z2 st = some res → Gd E st (Af E sz) s H locs → ∀ ls : Array Slot, lv_has ls 4 [(0, .ref (eq E 500)), (1, .int y1), (2, .int y2)] → W p l e (rmk 2) s m args below meth c H locs 0 0 (MQ below (QWv E res sz) args s 0 0 (Af E sz)) (F0 m 164 ls [.int z0, .int z1, .int z2, .ref (eq E 502)]) := by
  have hx := X.1.1
  have hb := X.1.2.1
  intro y1 y2 z0 z1 z2 st H locs hf G ls hl
  unfold fX10_burns_B164 at hf
  refine lv_ior hx hb dX10_burns_164 ?_
  obtain ⟨h1, hf⟩ := gd_s hf
  refine ia_st (k := 502) (n := 12) X G (hL 502 rfl) rfl (by decide) (ix_in h1) dX10_burns_165 (fun s2 es2 H locs G => ?_)
  have hf := nm_s hf s2 es2
  obtain ⟨x3, ex3⟩ : ∃ y : Int32, y = (y2 + (1 : Int32)) := ⟨_, rfl⟩
  have hf := nm_s hf x3 ex3
  refine lv_iinc (k := 2) (v := x3) (lv' := [(2, .int x3), (0, .ref (eq E 500)), (1, .int y1)]) hx hb dX10_burns_166 hl rfl (by rw [ex3]; rfl) (by decide) rfl (fun ls hl => ?_)
  refine lv_goto (tgt := 34) hx hb dX10_burns_169 (by decide) ?_
  exact hk34 y1 x3 s2 _ _ hf G _ (lv_sub hl [1, 2, 0] rfl)
def fX10_burns_B133 (k34 : Int32 → Int32 → St → Option St) (y1 : Int32) (y2 : Int32) (z0 : Int32) (z1 : Int32) (st : St) : Option St := gd (ix z1 8) (nm (ui st 503 z1.toNatClampNeg z0) (fun s2 => gd (ix y2 8) (if (s2.1 502 2) ≤ (s2.1 503 y2.toNatClampNeg) then (fX10_burns_B164 k34 y1 y2 (0 : Int32) (s2.1 502 7) (7 : Int32) s2) else (fX10_burns_B164 k34 y1 y2 ((1 : Int32) <<< (y2 &&& 31)) (s2.1 502 7) (7 : Int32) s2))))
set_option maxRecDepth 100000 in
theorem wX10_burns_B133 {p : Program} {l : Launch} {e : Env} {s : State} {m : MethodId} {args : Array Value} {below : List Frame} {meth : Method} {c : Code} {E : Ev} (hL : ∀ k, fxM k = true → k ∈ eL E) {sz : Nat} {res : St} (X : CX p s m args c E RX10 cX10_burns 4 (Af E sz)) (hr : meth.sig.returnType = none) (hlk : meth.locks = false) {k34 : Int32 → Int32 → St → Option St} (hk34 : ∀ (y1 : Int32) (y2 : Int32) (st : St) (H : Heap) (locs : List Loc), k34 y1 y2 st = some res → Gd E st (Af E sz) s H locs → ∀ ls : Array Slot, lv_has ls 4 [(0, .ref (eq E 500)), (1, .int y1), (2, .int y2)] → W p l e (rmk 2) s m args below meth c H locs 0 0 (MQ below (QWv E res sz) args s 0 0 (Af E sz)) (F0 m 34 ls [])) : ∀ (y1 : Int32) (y2 : Int32) (z0 : Int32) (z1 : Int32) (st : St) (H : Heap) (locs : List Loc), fX10_burns_B133  k34 y1 y2 z0 z1 st = some res → Gd E st (Af E sz) s H locs → ∀ ls : Array Slot, lv_has ls 4 [(0, .ref (eq E 500)), (1, .int y1), (2, .int y2)] → W p l e (rmk 2) s m args below meth c H locs 0 0 (MQ below (QWv E res sz) args s 0 0 (Af E sz)) (F0 m 133 ls [.int z0, .int z1, .ref (eq E 503)]) := by
  have hx := X.1.1
  have hb := X.1.2.1
  intro y1 y2 z0 z1 st H locs hf G ls hl
  unfold fX10_burns_B133 at hf
  obtain ⟨h1, hf⟩ := gd_s hf
  refine ia_st (k := 503) (n := 8) X G (hL 503 rfl) rfl (by decide) (ix_in h1) dX10_burns_133 (fun s2 es2 H locs G => ?_)
  have hf := nm_s hf s2 es2
  refine lv_aload_n hx hb dX10_burns_134 rfl (lv_at hl 0 rfl) ?_
  refine gf10 X G (hL 500 rfl) rfl 1 (by decide) rfl kf_X10_9 iwX10 dX10_burns_135 ?_
  refine lv_bipush (v := (7 : Int32)) hx hb dX10_burns_138 (by decide) ?_
  refine lv_dup2_11 hx hb dX10_burns_140 rfl rfl ?_
  refine ia_ldc (k := 502) (n := 12) X G (hL 502 rfl) rfl (by decide) 7 (by decide) dX10_burns_141 ?_
  refine lv_aload_n hx hb dX10_burns_142 rfl (lv_at hl 0 rfl) ?_
  refine gf10 X G (hL 500 rfl) rfl 2 (by decide) rfl kf_X10_13 iwX10 dX10_burns_143 ?_
  refine lv_iload_n hx hb dX10_burns_146 rfl (lv_at hl 2 rfl) ?_
  obtain ⟨h4, hf⟩ := gd_s hf
  refine ia_ld (k := 503) (n := 8) X G (hL 503 rfl) rfl (by decide) (ix_in h4) dX10_burns_147 ?_
  refine lv_aload_n hx hb dX10_burns_148 rfl (lv_at hl 0 rfl) ?_
  refine gf10 X G (hL 500 rfl) rfl 1 (by decide) rfl kf_X10_9 iwX10 dX10_burns_149 ?_
  refine lv_iconst (v := (2 : Int32)) hx hb dX10_burns_152 (by decide) ?_
  refine ia_ldc (k := 502) (n := 12) X G (hL 502 rfl) rfl (by decide) 2 (by decide) dX10_burns_153 ?_
  refine lv_icmp_ge (tgt := 163) hx hb dX10_burns_154 (by decide) (fun c6 => ?_) (fun c6 => ?_)
  · have hf := it_t hf c6
    refine lv_iconst (v := (0 : Int32)) hx hb dX10_burns_163 (by decide) ?_
    exact wX10_burns_B164 hL X hr hlk hk34 y1 y2 (0 : Int32) (s2.1 502 7) (7 : Int32) s2 _ _ hf G _ (lv_sub hl [0, 1, 2] rfl)
  · have hf := it_f hf c6
    refine lv_iconst (v := (1 : Int32)) hx hb dX10_burns_157 (by decide) ?_
    refine lv_iload_n hx hb dX10_burns_158 rfl (lv_at hl 2 rfl) ?_
    refine lv_ishl hx hb dX10_burns_159 ?_
    refine lv_goto (tgt := 164) hx hb dX10_burns_160 (by decide) ?_
    exact wX10_burns_B164 hL X hr hlk hk34 y1 y2 ((1 : Int32) <<< (y2 &&& 31)) (s2.1 502 7) (7 : Int32) s2 _ _ hf G _ (lv_sub hl [0, 1, 2] rfl)
def fX10_burns_B116 (k34 : Int32 → Int32 → St → Option St) (y1 : Int32) (y2 : Int32) (z0 : Int32) (st : St) : Option St := nm (z0 - y1) (fun x1 => if 0 ≤ x1 then (fX10_burns_B133 k34 y1 y2 x1 y2 st) else (fX10_burns_B133 k34 y1 y2 (0 : Int32) y2 st))
set_option maxRecDepth 100000 in
theorem wX10_burns_B116 {p : Program} {l : Launch} {e : Env} {s : State} {m : MethodId} {args : Array Value} {below : List Frame} {meth : Method} {c : Code} {E : Ev} (hL : ∀ k, fxM k = true → k ∈ eL E) {sz : Nat} {res : St} (X : CX p s m args c E RX10 cX10_burns 4 (Af E sz)) (hr : meth.sig.returnType = none) (hlk : meth.locks = false) {k34 : Int32 → Int32 → St → Option St} (hk34 : ∀ (y1 : Int32) (y2 : Int32) (st : St) (H : Heap) (locs : List Loc), k34 y1 y2 st = some res → Gd E st (Af E sz) s H locs → ∀ ls : Array Slot, lv_has ls 4 [(0, .ref (eq E 500)), (1, .int y1), (2, .int y2)] → W p l e (rmk 2) s m args below meth c H locs 0 0 (MQ below (QWv E res sz) args s 0 0 (Af E sz)) (F0 m 34 ls [])) : ∀ (y1 : Int32) (y2 : Int32) (z0 : Int32) (st : St) (H : Heap) (locs : List Loc), fX10_burns_B116  k34 y1 y2 z0 st = some res → Gd E st (Af E sz) s H locs → ∀ ls : Array Slot, lv_has ls 4 [(0, .ref (eq E 500)), (1, .int y1), (2, .int y2)] → W p l e (rmk 2) s m args below meth c H locs 0 0 (MQ below (QWv E res sz) args s 0 0 (Af E sz)) (F0 m 116 ls [.int z0]) := by
  have hx := X.1.1
  have hb := X.1.2.1
  intro y1 y2 z0 st H locs hf G ls hl
  unfold fX10_burns_B116 at hf
  refine lv_iload_n hx hb dX10_burns_116 rfl (lv_at hl 1 rfl) ?_
  refine lv_isub hx hb dX10_burns_117 ?_
  refine lv_topi (fun x1 ex1 => ?_)
  have hf := nm_s hf x1 ex1
  refine lv_istore_n (lv' := [(3, .int x1), (0, .ref (eq E 500)), (1, .int y1), (2, .int y2)]) hx hb dX10_burns_118 rfl hl (by decide) rfl (fun ls hl => ?_)
  refine lv_aload_n hx hb dX10_burns_119 rfl (lv_at hl 1 rfl) ?_
  refine gf10 X G (hL 500 rfl) rfl 2 (by decide) rfl kf_X10_13 iwX10 dX10_burns_120 ?_
  refine lv_iload_n hx hb dX10_burns_123 rfl (lv_at hl 3 rfl) ?_
  refine lv_iload_n hx hb dX10_burns_124 rfl (lv_at hl 0 rfl) ?_
  refine lv_if_ge (tgt := 132) hx hb dX10_burns_125 (by decide) (fun c2 => ?_) (fun c2 => ?_)
  · have hf := it_t hf c2
    refine lv_iload_n hx hb dX10_burns_132 rfl (lv_at hl 0 rfl) ?_
    exact wX10_burns_B133 hL X hr hlk hk34 y1 y2 x1 y2 st _ _ hf G _ (lv_sub hl [1, 2, 3] rfl)
  · have hf := it_f hf c2
    refine lv_iconst (v := (0 : Int32)) hx hb dX10_burns_128 (by decide) ?_
    refine lv_goto (tgt := 133) hx hb dX10_burns_129 (by decide) ?_
    exact wX10_burns_B133 hL X hr hlk hk34 y1 y2 (0 : Int32) y2 st _ _ hf G _ (lv_sub hl [1, 2, 3] rfl)
def fX10_burns_B100 (k34 : Int32 → Int32 → St → Option St) (y1 : Int32) (y2 : Int32) (y3 : Int32) (z0 : Int32) (z1 : Int32) (z2 : Int32) (st : St) : Option St := gd (ix z2 8) (nm (ui st 504 z2.toNatClampNeg (z1 - z0)) (fun s2 => if y3 ≤ (999 : Int32) then (fX10_burns_B116 k34 y1 y2 y3 s2) else (fX10_burns_B116 k34 y1 y2 (999 : Int32) s2)))
set_option maxRecDepth 100000 in
theorem wX10_burns_B100 {p : Program} {l : Launch} {e : Env} {s : State} {m : MethodId} {args : Array Value} {below : List Frame} {meth : Method} {c : Code} {E : Ev} (hL : ∀ k, fxM k = true → k ∈ eL E) {sz : Nat} {res : St} (X : CX p s m args c E RX10 cX10_burns 4 (Af E sz)) (hr : meth.sig.returnType = none) (hlk : meth.locks = false) {k34 : Int32 → Int32 → St → Option St} (hk34 : ∀ (y1 : Int32) (y2 : Int32) (st : St) (H : Heap) (locs : List Loc), k34 y1 y2 st = some res → Gd E st (Af E sz) s H locs → ∀ ls : Array Slot, lv_has ls 4 [(0, .ref (eq E 500)), (1, .int y1), (2, .int y2)] → W p l e (rmk 2) s m args below meth c H locs 0 0 (MQ below (QWv E res sz) args s 0 0 (Af E sz)) (F0 m 34 ls [])) : ∀ (y1 : Int32) (y2 : Int32) (y3 : Int32) (z0 : Int32) (z1 : Int32) (z2 : Int32) (st : St) (H : Heap) (locs : List Loc), fX10_burns_B100  k34 y1 y2 y3 z0 z1 z2 st = some res → Gd E st (Af E sz) s H locs → ∀ ls : Array Slot, lv_has ls 4 [(0, .ref (eq E 500)), (1, .int y1), (2, .int y2), (3, .int y3)] → W p l e (rmk 2) s m args below meth c H locs 0 0 (MQ below (QWv E res sz) args s 0 0 (Af E sz)) (F0 m 100 ls [.int z0, .int z1, .int z2, .ref (eq E 504)]) := by
  have hx := X.1.1
  have hb := X.1.2.1
  intro y1 y2 y3 z0 z1 z2 st H locs hf G ls hl
  unfold fX10_burns_B100 at hf
  refine lv_isub hx hb dX10_burns_100 ?_
  obtain ⟨h1, hf⟩ := gd_s hf
  refine ia_st (k := 504) (n := 8) X G (hL 504 rfl) rfl (by decide) (ix_in h1) dX10_burns_101 (fun s2 es2 H locs G => ?_)
  have hf := nm_s hf s2 es2
  refine lv_iload_n hx hb dX10_burns_102 rfl (lv_at hl 3 rfl) ?_
  refine lv_sipush (v := (999 : Int32)) hx hb dX10_burns_103 (by decide) ?_
  refine lv_icmp_le (tgt := 115) hx hb dX10_burns_106 (by decide) (fun c3 => ?_) (fun c3 => ?_)
  · have hf := it_t hf c3
    refine lv_iload_n hx hb dX10_burns_115 rfl (lv_at hl 3 rfl) ?_
    exact wX10_burns_B116 hL X hr hlk hk34 y1 y2 y3 s2 _ _ hf G _ (lv_sub hl [0, 1, 2] rfl)
  · have hf := it_f hf c3
    refine lv_sipush (v := (999 : Int32)) hx hb dX10_burns_109 (by decide) ?_
    refine lv_goto (tgt := 116) hx hb dX10_burns_112 (by decide) ?_
    exact wX10_burns_B116 hL X hr hlk hk34 y1 y2 (999 : Int32) s2 _ _ hf G _ (lv_sub hl [0, 1, 2] rfl)
def fX10_burns_B77 (k34 : Int32 → Int32 → St → Option St) (y1 : Int32) (y2 : Int32) (z0 : Int32) (z1 : Int32) (st : St) : Option St := nm (z1 + z0) (fun x1 => gd (ix y2 8) (gd (ix y2 8) (if (st.1 504 y2.toNatClampNeg) ≤ 0 then (fX10_burns_B100 k34 y1 y2 x1 (0 : Int32) (st.1 504 y2.toNatClampNeg) y2 st) else (fX10_burns_B100 k34 y1 y2 x1 (1 : Int32) (st.1 504 y2.toNatClampNeg) y2 st))))
set_option maxRecDepth 100000 in
theorem wX10_burns_B77 {p : Program} {l : Launch} {e : Env} {s : State} {m : MethodId} {args : Array Value} {below : List Frame} {meth : Method} {c : Code} {E : Ev} (hL : ∀ k, fxM k = true → k ∈ eL E) {sz : Nat} {res : St} (X : CX p s m args c E RX10 cX10_burns 4 (Af E sz)) (hr : meth.sig.returnType = none) (hlk : meth.locks = false) {k34 : Int32 → Int32 → St → Option St} (hk34 : ∀ (y1 : Int32) (y2 : Int32) (st : St) (H : Heap) (locs : List Loc), k34 y1 y2 st = some res → Gd E st (Af E sz) s H locs → ∀ ls : Array Slot, lv_has ls 4 [(0, .ref (eq E 500)), (1, .int y1), (2, .int y2)] → W p l e (rmk 2) s m args below meth c H locs 0 0 (MQ below (QWv E res sz) args s 0 0 (Af E sz)) (F0 m 34 ls [])) : ∀ (y1 : Int32) (y2 : Int32) (z0 : Int32) (z1 : Int32) (st : St) (H : Heap) (locs : List Loc), fX10_burns_B77  k34 y1 y2 z0 z1 st = some res → Gd E st (Af E sz) s H locs → ∀ ls : Array Slot, lv_has ls 4 [(0, .ref (eq E 500)), (1, .int y1), (2, .int y2)] → W p l e (rmk 2) s m args below meth c H locs 0 0 (MQ below (QWv E res sz) args s 0 0 (Af E sz)) (F0 m 77 ls [.int z0, .int z1]) := by
  have hx := X.1.1
  have hb := X.1.2.1
  intro y1 y2 z0 z1 st H locs hf G ls hl
  unfold fX10_burns_B77 at hf
  refine lv_iadd hx hb dX10_burns_77 ?_
  refine lv_topi (fun x1 ex1 => ?_)
  have hf := nm_s hf x1 ex1
  refine lv_istore_n (lv' := [(3, .int x1), (0, .ref (eq E 500)), (1, .int y1), (2, .int y2)]) hx hb dX10_burns_78 rfl hl (by decide) rfl (fun ls hl => ?_)
  refine lv_aload_n hx hb dX10_burns_79 rfl (lv_at hl 1 rfl) ?_
  refine gf10 X G (hL 500 rfl) rfl 3 (by decide) rfl kf_X10_16 iwX10 dX10_burns_80 ?_
  refine lv_iload_n hx hb dX10_burns_83 rfl (lv_at hl 3 rfl) ?_
  refine lv_dup2_11 hx hb dX10_burns_84 rfl rfl ?_
  obtain ⟨h2, hf⟩ := gd_s hf
  refine ia_ld (k := 504) (n := 8) X G (hL 504 rfl) rfl (by decide) (ix_in h2) dX10_burns_85 ?_
  refine lv_aload_n hx hb dX10_burns_86 rfl (lv_at hl 1 rfl) ?_
  refine gf10 X G (hL 500 rfl) rfl 3 (by decide) rfl kf_X10_16 iwX10 dX10_burns_87 ?_
  refine lv_iload_n hx hb dX10_burns_90 rfl (lv_at hl 3 rfl) ?_
  obtain ⟨h3, hf⟩ := gd_s hf
  refine ia_ld (k := 504) (n := 8) X G (hL 504 rfl) rfl (by decide) (ix_in h3) dX10_burns_91 ?_
  refine lv_if_le (tgt := 99) hx hb dX10_burns_92 (by decide) (fun c4 => ?_) (fun c4 => ?_)
  · have hf := it_t hf c4
    refine lv_iconst (v := (0 : Int32)) hx hb dX10_burns_99 (by decide) ?_
    exact wX10_burns_B100 hL X hr hlk hk34 y1 y2 x1 (0 : Int32) (st.1 504 y2.toNatClampNeg) y2 st _ _ hf G _ (lv_sub hl [1, 2, 3, 0] rfl)
  · have hf := it_f hf c4
    refine lv_iconst (v := (1 : Int32)) hx hb dX10_burns_95 (by decide) ?_
    refine lv_goto (tgt := 100) hx hb dX10_burns_96 (by decide) ?_
    exact wX10_burns_B100 hL X hr hlk hk34 y1 y2 x1 (1 : Int32) (st.1 504 y2.toNatClampNeg) y2 st _ _ hf G _ (lv_sub hl [1, 2, 3, 0] rfl)
def fX10_burns_L34 : Nat → Int32 → Int32 → St → Option St
  | 0, _, _, _ => none
  | n + 1, y1, y2, st => if (st.1 502 3) ≤ y2 then (nm (ui st 502 6 ((st.1 502 6) + (1 : Int32))) (fun s5 => some s5)) else (br (fX10_isFrozen st y2) (fun x4 => if x4 = 0 then (gd (ix y2 8) (gd (ix y2 8) (if (st.1 504 y2.toNatClampNeg) ≤ 0 then (fX10_burns_B77 (fX10_burns_L34 n) y1 y2 (0 : Int32) (st.1 503 y2.toNatClampNeg) st) else (gd (ix y2 8) (fX10_burns_B77 (fX10_burns_L34 n) y1 y2 (st.1 505 y2.toNatClampNeg) (st.1 503 y2.toNatClampNeg) st))))) else (nm (y2 + (1 : Int32)) (fun x6 => (fX10_burns_L34 n) y1 x6 st))))
set_option maxRecDepth 100000 in
theorem wX10_burns_L34 {p : Program} {l : Launch} {e : Env} {s : State} {m : MethodId} {args : Array Value} {below : List Frame} {meth : Method} {c : Code} {E : Ev} (hL : ∀ k, fxM k = true → k ∈ eL E) {sz : Nat} {res : St} (X : CX p s m args c E RX10 cX10_burns 4 (Af E sz)) (hr : meth.sig.returnType = none) (hlk : meth.locks = false) : ∀ (n : Nat) (y1 : Int32) (y2 : Int32) (st : St) (H : Heap) (locs : List Loc), fX10_burns_L34   n y1 y2 st = some res → Gd E st (Af E sz) s H locs → ∀ ls : Array Slot, lv_has ls 4 [(0, .ref (eq E 500)), (1, .int y1), (2, .int y2)] → W p l e (rmk 2) s m args below meth c H locs 0 0 (MQ below (QWv E res sz) args s 0 0 (Af E sz)) (F0 m 34 ls []) := by
  have hx := X.1.1
  have hb := X.1.2.1
  intro n
  induction n with
  | zero =>
    intro y1 y2 st H locs hf G ls hl
    cases (show (none : Option St) = some res from hf)
  | succ n ih =>
    intro y1 y2 st H locs hf G ls hl
    rw [fX10_burns_L34] at hf
    refine lv_iload_n hx hb dX10_burns_34 rfl (lv_at hl 2 rfl) ?_
    refine lv_aload_n hx hb dX10_burns_35 rfl (lv_at hl 0 rfl) ?_
    refine gf10 X G (hL 500 rfl) rfl 1 (by decide) rfl kf_X10_9 iwX10 dX10_burns_36 ?_
    refine lv_iconst (v := (3 : Int32)) hx hb dX10_burns_39 (by decide) ?_
    refine ia_ldc (k := 502) (n := 12) X G (hL 502 rfl) rfl (by decide) 3 (by decide) dX10_burns_40 ?_
    refine lv_icmp_ge (tgt := 172) hx hb dX10_burns_41 (by decide) (fun c2 => ?_) (fun c2 => ?_)
    · have hf := it_t hf c2
      refine lv_aload_n hx hb dX10_burns_172 rfl (lv_at hl 0 rfl) ?_
      refine gf10 X G (hL 500 rfl) rfl 1 (by decide) rfl kf_X10_9 iwX10 dX10_burns_173 ?_
      refine lv_bipush (v := (6 : Int32)) hx hb dX10_burns_176 (by decide) ?_
      refine lv_dup2_11 hx hb dX10_burns_178 rfl rfl ?_
      refine ia_ldc (k := 502) (n := 12) X G (hL 502 rfl) rfl (by decide) 6 (by decide) dX10_burns_179 ?_
      refine lv_iconst (v := (1 : Int32)) hx hb dX10_burns_180 (by decide) ?_
      refine lv_iadd hx hb dX10_burns_181 ?_
      refine ia_stc (k := 502) (n := 12) X G (hL 502 rfl) rfl (by decide) 6 (by decide) dX10_burns_182 (fun s5 es5 H locs G => ?_)
      have hf := nm_s hf s5 es5
      exact rtWv X hlk G hr (so_i hf) dX10_burns_183
    · have hf := it_f hf c2
      refine lv_aload_n hx hb dX10_burns_44 rfl (lv_at hl 0 rfl) ?_
      refine lv_iload_n hx hb dX10_burns_45 rfl (lv_at hl 2 rfl) ?_
      obtain ⟨x4, h3, hf⟩ := br_s hf
      refine cVRi (As := [.int y2]) (rest := []) X G kc_X10_371 (tX10_isFrozen l E st _ hL  y2 h3) (rcv X G (hL 500 rfl) (cO10 rfl) rfl) rfl rfl (rmk_le (by omega) (by decide)) rfl hl.1 rfl (Nat.le_of_ble_eq_true rfl) dX10_burns_46 ⟨Nat.zero_le _, Nat.zero_le _⟩ ?_
      refine lv_if_ne (tgt := 166) hx hb dX10_burns_49 (by decide) (fun c5 => ?_) (fun c5 => ?_)
      · have hf := it_f hf c5
        obtain ⟨x6, ex6⟩ : ∃ y : Int32, y = (y2 + (1 : Int32)) := ⟨_, rfl⟩
        have hf := nm_s hf x6 ex6
        refine lv_iinc (k := 2) (v := x6) (lv' := [(2, .int x6), (0, .ref (eq E 500)), (1, .int y1)]) hx hb dX10_burns_166 hl rfl (by rw [ex6]; rfl) (by decide) rfl (fun ls hl => ?_)
        refine lv_goto (tgt := 34) hx hb dX10_burns_169 (by decide) ?_
        exact ih y1 x6 st _ _ hf G _ (lv_sub hl [1, 2, 0] rfl)
      · have hf := it_t hf c5
        refine lv_aload_n hx hb dX10_burns_52 rfl (lv_at hl 0 rfl) ?_
        refine gf10 X G (hL 500 rfl) rfl 2 (by decide) rfl kf_X10_13 iwX10 dX10_burns_53 ?_
        refine lv_iload_n hx hb dX10_burns_56 rfl (lv_at hl 2 rfl) ?_
        obtain ⟨h6, hf⟩ := gd_s hf
        refine ia_ld (k := 503) (n := 8) X G (hL 503 rfl) rfl (by decide) (ix_in h6) dX10_burns_57 ?_
        refine lv_aload_n hx hb dX10_burns_58 rfl (lv_at hl 0 rfl) ?_
        refine gf10 X G (hL 500 rfl) rfl 3 (by decide) rfl kf_X10_16 iwX10 dX10_burns_59 ?_
        refine lv_iload_n hx hb dX10_burns_62 rfl (lv_at hl 2 rfl) ?_
        obtain ⟨h7, hf⟩ := gd_s hf
        refine ia_ld (k := 504) (n := 8) X G (hL 504 rfl) rfl (by decide) (ix_in h7) dX10_burns_63 ?_
        refine lv_if_le (tgt := 76) hx hb dX10_burns_64 (by decide) (fun c8 => ?_) (fun c8 => ?_)
        · have hf := it_t hf c8
          refine lv_iconst (v := (0 : Int32)) hx hb dX10_burns_76 (by decide) ?_
          exact wX10_burns_B77 hL X hr hlk ih y1 y2 (0 : Int32) (st.1 503 y2.toNatClampNeg) st _ _ hf G _ (lv_sub hl [0, 1, 2] rfl)
        · have hf := it_f hf c8
          refine lv_aload_n hx hb dX10_burns_67 rfl (lv_at hl 0 rfl) ?_
          refine gf10 X G (hL 500 rfl) rfl 4 (by decide) rfl kf_X10_19 iwX10 dX10_burns_68 ?_
          refine lv_iload_n hx hb dX10_burns_71 rfl (lv_at hl 2 rfl) ?_
          obtain ⟨h9, hf⟩ := gd_s hf
          refine ia_ld (k := 505) (n := 8) X G (hL 505 rfl) rfl (by decide) (ix_in h9) dX10_burns_72 ?_
          refine lv_goto (tgt := 77) hx hb dX10_burns_73 (by decide) ?_
          exact wX10_burns_B77 hL X hr hlk ih y1 y2 (st.1 505 y2.toNatClampNeg) (st.1 503 y2.toNatClampNeg) st _ _ hf G _ (lv_sub hl [0, 1, 2] rfl)
def fX10_burns_B14 (st : St) : Option St := nm ((2 : Int32) * (st.1 502 1)) (fun x2 => fX10_burns_L34 10000 x2 (0 : Int32) st)
set_option maxRecDepth 100000 in
theorem wX10_burns_B14 {p : Program} {l : Launch} {e : Env} {s : State} {m : MethodId} {args : Array Value} {below : List Frame} {meth : Method} {c : Code} {E : Ev} (hL : ∀ k, fxM k = true → k ∈ eL E) {sz : Nat} {res : St} (X : CX p s m args c E RX10 cX10_burns 4 (Af E sz)) (hr : meth.sig.returnType = none) (hlk : meth.locks = false) : ∀  (st : St) (H : Heap) (locs : List Loc), fX10_burns_B14    st = some res → Gd E st (Af E sz) s H locs → ∀ ls : Array Slot, lv_has ls 4 [(0, .ref (eq E 500))] → W p l e (rmk 2) s m args below meth c H locs 0 0 (MQ below (QWv E res sz) args s 0 0 (Af E sz)) (F0 m 14 ls []) := by
  have hx := X.1.1
  have hb := X.1.2.1
  intro  st H locs hf G ls hl
  unfold fX10_burns_B14 at hf
  refine lv_iconst (v := (2 : Int32)) hx hb dX10_burns_14 (by decide) ?_
  refine lv_aload_n hx hb dX10_burns_15 rfl (lv_at hl 0 rfl) ?_
  refine gf10 X G (hL 500 rfl) rfl 1 (by decide) rfl kf_X10_9 iwX10 dX10_burns_16 ?_
  refine lv_iconst (v := (1 : Int32)) hx hb dX10_burns_19 (by decide) ?_
  refine ia_ldc (k := 502) (n := 12) X G (hL 502 rfl) rfl (by decide) 1 (by decide) dX10_burns_20 ?_
  refine lv_imul hx hb dX10_burns_21 ?_
  refine lv_goto (tgt := 31) hx hb dX10_burns_22 (by decide) ?_
  refine lv_topi (fun x2 ex2 => ?_)
  have hf := nm_s hf x2 ex2
  refine lv_istore_n (lv' := [(1, .int x2), (0, .ref (eq E 500))]) hx hb dX10_burns_31 rfl hl (by decide) rfl (fun ls hl => ?_)
  refine lv_iconst (v := (0 : Int32)) hx hb dX10_burns_32 (by decide) ?_
  refine lv_istore_n (lv' := [(2, .int (0 : Int32)), (1, .int x2), (0, .ref (eq E 500))]) hx hb dX10_burns_33 rfl hl (by decide) rfl (fun ls hl => ?_)
  exact wX10_burns_L34 hL X hr hlk 10000 x2 (0 : Int32) st _ _ hf G _ (lv_sub hl [2, 1, 0] rfl)
def fX10_burns (st : St) : Option St := if (st.1 500 49) = 0 then (br (fX10_isSnowTold st) (fun x3 => if x3 = 0 then (nm (st.1 502 1) (fun x6 => fX10_burns_L34 10000 x6 (0 : Int32) st)) else (fX10_burns_B14 st))) else (fX10_burns_B14 st)
set_option maxRecDepth 100000 in
theorem tX10_burns (l : Launch) (E : Ev) (st : St) (sz : Nat) (hL : ∀ k, fxM k = true → k ∈ eL E)  {res : St} (hf : fX10_burns   st = some res) : Met l yX10_burns (.code yX10_burns cX10_burns 4 none :: uW) (rmk 2) (va_Pc [.ref (eq E 500)] (Pre E st sz)) (QWv E res sz) 0 0 (Af E sz) := by
  refine Met_in (by decide) (Nat.le_of_ble_eq_true rfl) ?_
  intro p e s m below meth c X hr hlk hz G ls hl
  have hx := X.1.1
  have hb := X.1.2.1
  have hl : lv_has ls 4 [(0, .ref (eq E 500))] := hl
  unfold fX10_burns at hf
  refine lv_aload_n hx hb dX10_burns_0 rfl (lv_at hl 0 rfl) ?_
  refine gf10 X G (hL 500 rfl) rfl 49 (by decide) rfl kf_X10_399 iwX10 dX10_burns_1 ?_
  refine lv_if_ne (tgt := 14) hx hb dX10_burns_4 (by decide) (fun c1 => ?_) (fun c1 => ?_)
  · have hf := it_f hf c1
    exact wX10_burns_B14 hL X hr hlk st _ _ hf G _ (lv_sub hl [0] rfl)
  · have hf := it_t hf c1
    refine lv_aload_n hx hb dX10_burns_7 rfl (lv_at hl 0 rfl) ?_
    obtain ⟨x3, h2, hf⟩ := br_s hf
    refine cVRi (As := []) (rest := []) X G kc_X10_402 (tX10_isSnowTold l E st _ hL   h2) (rcv X G (hL 500 rfl) (cO10 rfl) rfl) rfl rfl (rmk_le (by omega) (by decide)) rfl hl.1 rfl (Nat.le_of_ble_eq_true rfl) dX10_burns_8 ⟨Nat.zero_le _, Nat.zero_le _⟩ ?_
    refine lv_if_eq (tgt := 25) hx hb dX10_burns_11 (by decide) (fun c4 => ?_) (fun c4 => ?_)
    · have hf := it_t hf c4
      refine lv_aload_n hx hb dX10_burns_25 rfl (lv_at hl 0 rfl) ?_
      refine gf10 X G (hL 500 rfl) rfl 1 (by decide) rfl kf_X10_9 iwX10 dX10_burns_26 ?_
      refine lv_iconst (v := (1 : Int32)) hx hb dX10_burns_29 (by decide) ?_
      refine ia_ldc (k := 502) (n := 12) X G (hL 502 rfl) rfl (by decide) 1 (by decide) dX10_burns_30 ?_
      refine lv_topi (fun x6 ex6 => ?_)
      have hf := nm_s hf x6 ex6
      refine lv_istore_n (lv' := [(1, .int x6), (0, .ref (eq E 500))]) hx hb dX10_burns_31 rfl hl (by decide) rfl (fun ls hl => ?_)
      refine lv_iconst (v := (0 : Int32)) hx hb dX10_burns_32 (by decide) ?_
      refine lv_istore_n (lv' := [(2, .int (0 : Int32)), (1, .int x6), (0, .ref (eq E 500))]) hx hb dX10_burns_33 rfl hl (by decide) rfl (fun ls hl => ?_)
      exact wX10_burns_L34 hL X hr hlk 10000 x6 (0 : Int32) st _ _ hf G _ (lv_sub hl [2, 1, 0] rfl)
    · have hf := it_f hf c4
      exact wX10_burns_B14 hL X hr hlk st _ _ hf G _ (lv_sub hl [0] rfl)
def fX10_goes_L4 : Nat → Int32 → Int32 → St → Option (Int32 × St)
  | 0, _, _, _ => none
  | n + 1, y1, y2, st => if (st.1 502 5) ≤ y2 then (br (fX10_burns st) (fun s4 => some (y1, s4))) else (if (st.1 502 11) = (-1 : Int32) then (br (fX10_burns st) (fun s6 => some (y1, s6))) else (bw (fX10_callsBy y2 st) (fun x7 s6 => nm (y1 + x7) (fun x8 => nm (y2 + (1 : Int32)) (fun x9 => (fX10_goes_L4 n) x8 x9 s6)))))
set_option maxRecDepth 100000 in
theorem wX10_goes_L4 {p : Program} {l : Launch} {e : Env} {s : State} {m : MethodId} {args : Array Value} {below : List Frame} {meth : Method} {c : Code} {E : Ev} (hL : ∀ k, fxM k = true → k ∈ eL E) {sz : Nat} {res : (Int32 × St)} (X : CX p s m args c E RX10 cX10_goes 3 (Af E sz)) (hr : meth.sig.returnType = (some .int)) (hlk : meth.locks = false) : ∀ (n : Nat) (y1 : Int32) (y2 : Int32) (st : St) (H : Heap) (locs : List Loc), fX10_goes_L4   n y1 y2 st = some res → Gd E st (Af E sz) s H locs → ∀ ls : Array Slot, lv_has ls 3 [(0, .ref (eq E 500)), (1, .int y1), (2, .int y2)] → W p l e (rmk 6) s m args below meth c H locs 0 0 (MQ below (QWi E res.2 sz res.1) args s 0 0 (Af E sz)) (F0 m 4 ls []) := by
  have hx := X.1.1
  have hb := X.1.2.1
  intro n
  induction n with
  | zero =>
    intro y1 y2 st H locs hf G ls hl
    cases (show (none : Option (Int32 × St)) = some res from hf)
  | succ n ih =>
    intro y1 y2 st H locs hf G ls hl
    rw [fX10_goes_L4] at hf
    refine lv_iload_n hx hb dX10_goes_4 rfl (lv_at hl 2 rfl) ?_
    refine lv_aload_n hx hb dX10_goes_5 rfl (lv_at hl 0 rfl) ?_
    refine gf10 X G (hL 500 rfl) rfl 1 (by decide) rfl kf_X10_9 iwX10 dX10_goes_6 ?_
    refine lv_iconst (v := (5 : Int32)) hx hb dX10_goes_9 (by decide) ?_
    refine ia_ldc (k := 502) (n := 12) X G (hL 502 rfl) rfl (by decide) 5 (by decide) dX10_goes_10 ?_
    refine lv_icmp_ge (tgt := 39) hx hb dX10_goes_11 (by decide) (fun c2 => ?_) (fun c2 => ?_)
    · have hf := it_t hf c2
      refine lv_aload_n hx hb dX10_goes_39 rfl (lv_at hl 0 rfl) ?_
      obtain ⟨s4, h3, hf⟩ := br_s hf
      refine cVWv (As := []) (rest := []) X G kc_X10_408 (tX10_burns l E st _ hL   h3) (rcv X G (hL 500 rfl) (cO10 rfl) rfl) rfl rfl (rmk_le (by omega) (by decide)) rfl hl.1 rfl (Nat.le_of_ble_eq_true rfl) dX10_goes_40 ⟨Nat.zero_le _, Nat.zero_le _⟩ (fun H locs G => ?_)
      refine lv_iload_n hx hb dX10_goes_43 rfl (lv_at hl 1 rfl) ?_
      exact rtWi X hlk G hr (so_i hf) dX10_goes_44
    · have hf := it_f hf c2
      refine lv_aload_n hx hb dX10_goes_14 rfl (lv_at hl 0 rfl) ?_
      refine gf10 X G (hL 500 rfl) rfl 1 (by decide) rfl kf_X10_9 iwX10 dX10_goes_15 ?_
      refine lv_bipush (v := (11 : Int32)) hx hb dX10_goes_18 (by decide) ?_
      refine ia_ldc (k := 502) (n := 12) X G (hL 502 rfl) rfl (by decide) 11 (by decide) dX10_goes_20 ?_
      refine lv_iconst (v := (-1 : Int32)) hx hb dX10_goes_21 (by decide) ?_
      refine lv_icmp_eq (tgt := 39) hx hb dX10_goes_22 (by decide) (fun c4 => ?_) (fun c4 => ?_)
      · have hf := it_t hf c4
        refine lv_aload_n hx hb dX10_goes_39 rfl (lv_at hl 0 rfl) ?_
        obtain ⟨s6, h5, hf⟩ := br_s hf
        refine cVWv (As := []) (rest := []) X G kc_X10_408 (tX10_burns l E st _ hL   h5) (rcv X G (hL 500 rfl) (cO10 rfl) rfl) rfl rfl (rmk_le (by omega) (by decide)) rfl hl.1 rfl (Nat.le_of_ble_eq_true rfl) dX10_goes_40 ⟨Nat.zero_le _, Nat.zero_le _⟩ (fun H locs G => ?_)
        refine lv_iload_n hx hb dX10_goes_43 rfl (lv_at hl 1 rfl) ?_
        exact rtWi X hlk G hr (so_i hf) dX10_goes_44
      · have hf := it_f hf c4
        refine lv_iload_n hx hb dX10_goes_25 rfl (lv_at hl 1 rfl) ?_
        refine lv_aload_n hx hb dX10_goes_26 rfl (lv_at hl 0 rfl) ?_
        refine lv_iload_n hx hb dX10_goes_27 rfl (lv_at hl 2 rfl) ?_
        obtain ⟨x7, s6, h5, hf⟩ := bw_s hf
        refine cVWi (As := [.int y2]) (rest := [.int y1]) X G kc_X10_405 (tX10_callsBy l E st _ hL  y2 h5) (rcv X G (hL 500 rfl) (cO10 rfl) rfl) rfl rfl (rmk_le (by omega) (by decide)) rfl hl.1 rfl (Nat.le_of_ble_eq_true rfl) dX10_goes_28 ⟨Nat.zero_le _, Nat.zero_le _⟩ (fun H locs G => ?_)
        refine lv_iadd hx hb dX10_goes_31 ?_
        refine lv_topi (fun x8 ex8 => ?_)
        have hf := nm_s hf x8 ex8
        refine lv_istore_n (lv' := [(1, .int x8), (0, .ref (eq E 500)), (2, .int y2)]) hx hb dX10_goes_32 rfl hl (by decide) rfl (fun ls hl => ?_)
        obtain ⟨x9, ex9⟩ : ∃ y : Int32, y = (y2 + (1 : Int32)) := ⟨_, rfl⟩
        have hf := nm_s hf x9 ex9
        refine lv_iinc (k := 2) (v := x9) (lv' := [(2, .int x9), (1, .int x8), (0, .ref (eq E 500))]) hx hb dX10_goes_33 hl rfl (by rw [ex9]; rfl) (by decide) rfl (fun ls hl => ?_)
        refine lv_goto (tgt := 4) hx hb dX10_goes_36 (by decide) ?_
        exact ih x8 x9 s6 _ _ hf G _ (lv_sub hl [2, 1, 0] rfl)
def fX10_goes (st : St) : Option (Int32 × St) := fX10_goes_L4 10000 (0 : Int32) (0 : Int32) st
set_option maxRecDepth 100000 in
theorem tX10_goes (l : Launch) (E : Ev) (st : St) (sz : Nat) (hL : ∀ k, fxM k = true → k ∈ eL E)  {res : (Int32 × St)} (hf : fX10_goes   st = some res) : Met l yX10_goes (.code yX10_goes cX10_goes 3 (some .int) :: uW) (rmk 6) (va_Pc [.ref (eq E 500)] (Pre E st sz)) (QWi E res.2 sz res.1) 0 0 (Af E sz) := by
  refine Met_in (by decide) (Nat.le_of_ble_eq_true rfl) ?_
  intro p e s m below meth c X hr hlk hz G ls hl
  have hx := X.1.1
  have hb := X.1.2.1
  have hl : lv_has ls 3 [(0, .ref (eq E 500))] := hl
  unfold fX10_goes at hf
  refine lv_iconst (v := (0 : Int32)) hx hb dX10_goes_0 (by decide) ?_
  refine lv_istore_n (lv' := [(1, .int (0 : Int32)), (0, .ref (eq E 500))]) hx hb dX10_goes_1 rfl hl (by decide) rfl (fun ls hl => ?_)
  refine lv_iconst (v := (0 : Int32)) hx hb dX10_goes_2 (by decide) ?_
  refine lv_istore_n (lv' := [(2, .int (0 : Int32)), (1, .int (0 : Int32)), (0, .ref (eq E 500))]) hx hb dX10_goes_3 rfl hl (by decide) rfl (fun ls hl => ?_)
  exact wX10_goes_L4 hL X hr hlk 10000 (0 : Int32) (0 : Int32) st _ _ hf G _ (lv_sub hl [2, 1, 0] rfl)
def fX10_goFor_L2 (p1 : Int32) : Nat → Int32 → St → Option St
  | 0, _, _ => none
  | n + 1, y2, st => if p1 ≤ y2 then (some st) else (bw (fX10_goes st) (fun x4 s3 => nm (y2 + (1 : Int32)) (fun x5 => (fX10_goFor_L2 p1 n) x5 s3)))
set_option maxRecDepth 100000 in
theorem wX10_goFor_L2 {p : Program} {l : Launch} {e : Env} {s : State} {m : MethodId} {args : Array Value} {below : List Frame} {meth : Method} {c : Code} {E : Ev} (hL : ∀ k, fxM k = true → k ∈ eL E) {p1 : Int32} {sz : Nat} {res : St} (X : CX p s m args c E RX10 cX10_goFor 3 (Af E sz)) (hr : meth.sig.returnType = none) (hlk : meth.locks = false) : ∀ (n : Nat) (y2 : Int32) (st : St) (H : Heap) (locs : List Loc), fX10_goFor_L2 p1  n y2 st = some res → Gd E st (Af E sz) s H locs → ∀ ls : Array Slot, lv_has ls 3 [(0, .ref (eq E 500)), (1, .int p1), (2, .int y2)] → W p l e (rmk 7) s m args below meth c H locs 0 0 (MQ below (QWv E res sz) args s 0 0 (Af E sz)) (F0 m 2 ls []) := by
  have hx := X.1.1
  have hb := X.1.2.1
  intro n
  induction n with
  | zero =>
    intro y2 st H locs hf G ls hl
    cases (show (none : Option St) = some res from hf)
  | succ n ih =>
    intro y2 st H locs hf G ls hl
    rw [fX10_goFor_L2] at hf
    refine lv_iload_n hx hb dX10_goFor_2 rfl (lv_at hl 2 rfl) ?_
    refine lv_iload_n hx hb dX10_goFor_3 rfl (lv_at hl 1 rfl) ?_
    refine lv_icmp_ge (tgt := 18) hx hb dX10_goFor_4 (by decide) (fun c1 => ?_) (fun c1 => ?_)
    · have hf := it_t hf c1
      exact rtWv X hlk G hr (so_i hf) dX10_goFor_18
    · have hf := it_f hf c1
      refine lv_aload_n hx hb dX10_goFor_7 rfl (lv_at hl 0 rfl) ?_
      obtain ⟨x4, s3, h2, hf⟩ := bw_s hf
      refine cVWi (As := []) (rest := []) X G kc_X10_411 (tX10_goes l E st _ hL   h2) (rcv X G (hL 500 rfl) (cO10 rfl) rfl) rfl rfl (rmk_le (by omega) (by decide)) rfl hl.1 rfl (Nat.le_of_ble_eq_true rfl) dX10_goFor_8 ⟨Nat.zero_le _, Nat.zero_le _⟩ (fun H locs G => ?_)
      refine lv_pop hx hb dX10_goFor_11 rfl ?_
      obtain ⟨x5, ex5⟩ : ∃ y : Int32, y = (y2 + (1 : Int32)) := ⟨_, rfl⟩
      have hf := nm_s hf x5 ex5
      refine lv_iinc (k := 2) (v := x5) (lv' := [(2, .int x5), (0, .ref (eq E 500)), (1, .int p1)]) hx hb dX10_goFor_12 hl rfl (by rw [ex5]; rfl) (by decide) rfl (fun ls hl => ?_)
      refine lv_goto (tgt := 2) hx hb dX10_goFor_15 (by decide) ?_
      exact ih x5 s3 _ _ hf G _ (lv_sub hl [1, 2, 0] rfl)
def fX10_goFor (p1 : Int32) (st : St) : Option St := fX10_goFor_L2 p1 10000 (0 : Int32) st
set_option maxRecDepth 100000 in
theorem tX10_goFor (l : Launch) (E : Ev) (st : St) (sz : Nat) (hL : ∀ k, fxM k = true → k ∈ eL E) (p1 : Int32) {res : St} (hf : fX10_goFor  p1 st = some res) : Met l yX10_goFor (.code yX10_goFor cX10_goFor 3 none :: uW) (rmk 7) (va_Pc [.ref (eq E 500), .int p1] (Pre E st sz)) (QWv E res sz) 0 0 (Af E sz) := by
  refine Met_in (by decide) (Nat.le_of_ble_eq_true rfl) ?_
  intro p e s m below meth c X hr hlk hz G ls hl
  have hx := X.1.1
  have hb := X.1.2.1
  have hl : lv_has ls 3 [(0, .ref (eq E 500)), (1, .int p1)] := hl
  unfold fX10_goFor at hf
  refine lv_iconst (v := (0 : Int32)) hx hb dX10_goFor_0 (by decide) ?_
  refine lv_istore_n (lv' := [(2, .int (0 : Int32)), (0, .ref (eq E 500)), (1, .int p1)]) hx hb dX10_goFor_1 rfl hl (by decide) rfl (fun ls hl => ?_)
  exact wX10_goFor_L2 hL X hr hlk 10000 (0 : Int32) st _ _ hf G _ (lv_sub hl [1, 2, 0] rfl)
def fX10_moves_B20 (p1 : Int32) (z0 : Int32) (st : St) : Option (Int32 × St) := gd (ix (st.1 500 53) 820) (nm (ui st 551 (st.1 500 53).toNatClampNeg z0) (fun s2 => nm (ui s2 500 53 ((s2.1 500 53) + (1 : Int32))) (fun s3 => some (z0, s3))))
set_option maxRecDepth 100000 in
theorem wX10_moves_B20 {p : Program} {l : Launch} {e : Env} {s : State} {m : MethodId} {args : Array Value} {below : List Frame} {meth : Method} {c : Code} {E : Ev} (hL : ∀ k, fxM k = true → k ∈ eL E) {p1 : Int32} {sz : Nat} {res : (Int32 × St)} (X : CX p s m args c E RX10 cX10_moves 3 (Af E sz)) (hr : meth.sig.returnType = (some .int)) (hlk : meth.locks = false) : ∀ (z0 : Int32) (st : St) (H : Heap) (locs : List Loc), fX10_moves_B20 p1  z0 st = some res → Gd E st (Af E sz) s H locs → ∀ ls : Array Slot, lv_has ls 3 [(0, .ref (eq E 500))] → W p l e (rmk 0) s m args below meth c H locs 0 0 (MQ below (QWi E res.2 sz res.1) args s 0 0 (Af E sz)) (F0 m 20 ls [.int z0]) := by
  have hx := X.1.1
  have hb := X.1.2.1
  intro z0 st H locs hf G ls hl
  unfold fX10_moves_B20 at hf
  refine lv_istore_n (lv' := [(2, .int z0), (0, .ref (eq E 500))]) hx hb dX10_moves_20 rfl hl (by decide) rfl (fun ls hl => ?_)
  refine lv_aload_n hx hb dX10_moves_21 rfl (lv_at hl 1 rfl) ?_
  refine gf10 X G (hL 500 rfl) rfl 50 (by decide) rfl kf_X10_127 iwX10 dX10_moves_22 ?_
  refine lv_aload_n hx hb dX10_moves_25 rfl (lv_at hl 1 rfl) ?_
  refine gf10 X G (hL 500 rfl) rfl 53 (by decide) rfl kf_X10_417 iwX10 dX10_moves_26 ?_
  refine lv_iload_n hx hb dX10_moves_29 rfl (lv_at hl 0 rfl) ?_
  obtain ⟨h1, hf⟩ := gd_s hf
  refine ia_st (k := 551) (n := 820) X G (hL 551 rfl) rfl (by decide) (ix_in h1) dX10_moves_30 (fun s2 es2 H locs G => ?_)
  have hf := nm_s hf s2 es2
  refine lv_aload_n hx hb dX10_moves_31 rfl (lv_at hl 1 rfl) ?_
  refine lv_dup hx hb dX10_moves_32 rfl ?_
  refine gf10 X G (hL 500 rfl) rfl 53 (by decide) rfl kf_X10_417 iwX10 dX10_moves_33 ?_
  refine lv_iconst (v := (1 : Int32)) hx hb dX10_moves_36 (by decide) ?_
  refine lv_iadd hx hb dX10_moves_37 ?_
  refine pf10 X G (hL 500 rfl) rfl 53 (by decide) ps10_53 uio kf_X10_417 iwX10 rfl (ty := .int) (by decide +kernel) rfl rfl dX10_moves_38 (fun s3 es3 H locs G => ?_)
  have hf := nm_s hf s3 es3
  refine lv_iload_n hx hb dX10_moves_41 rfl (lv_at hl 0 rfl) ?_
  exact rtWi X hlk G hr (so_i hf) dX10_moves_42
def fX10_moves (p1 : Int32) (st : St) : Option (Int32 × St) := if (st.1 500 54) = 0 then (fX10_moves_B20 p1 p1 st) else (gd (ix (st.1 500 53) 820) (fX10_moves_B20 p1 (st.1 551 (st.1 500 53).toNatClampNeg) st))
set_option maxRecDepth 100000 in
theorem tX10_moves (l : Launch) (E : Ev) (st : St) (sz : Nat) (hL : ∀ k, fxM k = true → k ∈ eL E) (p1 : Int32) {res : (Int32 × St)} (hf : fX10_moves  p1 st = some res) : Met l yX10_moves (.code yX10_moves cX10_moves 3 (some .int) :: uW) (rmk 0) (va_Pc [.ref (eq E 500), .int p1] (Pre E st sz)) (QWi E res.2 sz res.1) 0 0 (Af E sz) := by
  refine Met_in (by decide) (Nat.le_of_ble_eq_true rfl) ?_
  intro p e s m below meth c X hr hlk hz G ls hl
  have hx := X.1.1
  have hb := X.1.2.1
  have hl : lv_has ls 3 [(0, .ref (eq E 500)), (1, .int p1)] := hl
  unfold fX10_moves at hf
  refine lv_aload_n hx hb dX10_moves_0 rfl (lv_at hl 0 rfl) ?_
  refine gf10 X G (hL 500 rfl) rfl 54 (by decide) rfl kf_X10_414 iwX10 dX10_moves_1 ?_
  refine lv_if_eq (tgt := 19) hx hb dX10_moves_4 (by decide) (fun c1 => ?_) (fun c1 => ?_)
  · have hf := it_t hf c1
    refine lv_iload_n hx hb dX10_moves_19 rfl (lv_at hl 1 rfl) ?_
    exact wX10_moves_B20 hL X hr hlk p1 st _ _ hf G _ (lv_sub hl [0] rfl)
  · have hf := it_f hf c1
    refine lv_aload_n hx hb dX10_moves_7 rfl (lv_at hl 0 rfl) ?_
    refine gf10 X G (hL 500 rfl) rfl 50 (by decide) rfl kf_X10_127 iwX10 dX10_moves_8 ?_
    refine lv_aload_n hx hb dX10_moves_11 rfl (lv_at hl 0 rfl) ?_
    refine gf10 X G (hL 500 rfl) rfl 53 (by decide) rfl kf_X10_417 iwX10 dX10_moves_12 ?_
    obtain ⟨h2, hf⟩ := gd_s hf
    refine ia_ld (k := 551) (n := 820) X G (hL 551 rfl) rfl (by decide) (ix_in h2) dX10_moves_15 ?_
    refine lv_goto (tgt := 20) hx hb dX10_moves_16 (by decide) ?_
    exact wX10_moves_B20 hL X hr hlk (st.1 551 (st.1 500 53).toNatClampNeg) st _ _ hf G _ (lv_sub hl [0] rfl)
def fX10_movesRow_L2 (a1 : Nat) (n1 : Nat) : Nat → Int32 → St → Option St
  | 0, _, _ => none
  | n + 1, y2, st => if (Int32.ofNat n1) ≤ y2 then (some st) else (gd (ix y2 n1) (bw (fX10_moves (st.1 a1 y2.toNatClampNeg) st) (fun x5 s4 => gd (ix y2 n1) (nm (ui s4 a1 y2.toNatClampNeg x5) (fun s7 => nm (y2 + (1 : Int32)) (fun x8 => (fX10_movesRow_L2 a1 n1 n) x8 s7))))))
set_option maxRecDepth 100000 in
theorem wX10_movesRow_L2 {p : Program} {l : Launch} {e : Env} {s : State} {m : MethodId} {args : Array Value} {below : List Frame} {meth : Method} {c : Code} {E : Ev} (hL : ∀ k, fxM k = true → k ∈ eL E) {a1 : Nat} {n1 : Nat} (hm1 : a1 ∈ eL E) (ht1 : ty a1 = 10000 + n1) (hn1 : n1 < 10000) {sz : Nat} {res : St} (X : CX p s m args c E RX10 cX10_movesRow 3 (Af E sz)) (hr : meth.sig.returnType = none) (hlk : meth.locks = false) : ∀ (n : Nat) (y2 : Int32) (st : St) (H : Heap) (locs : List Loc), fX10_movesRow_L2 a1 n1  n y2 st = some res → Gd E st (Af E sz) s H locs → ∀ ls : Array Slot, lv_has ls 3 [(0, .ref (eq E 500)), (1, .ref (eq E a1)), (2, .int y2)] → W p l e (rmk 1) s m args below meth c H locs 0 0 (MQ below (QWv E res sz) args s 0 0 (Af E sz)) (F0 m 2 ls []) := by
  have hx := X.1.1
  have hb := X.1.2.1
  intro n
  induction n with
  | zero =>
    intro y2 st H locs hf G ls hl
    cases (show (none : Option St) = some res from hf)
  | succ n ih =>
    intro y2 st H locs hf G ls hl
    rw [fX10_movesRow_L2] at hf
    refine lv_iload_n hx hb dX10_movesRow_2 rfl (lv_at hl 2 rfl) ?_
    refine lv_aload_n hx hb dX10_movesRow_3 rfl (lv_at hl 1 rfl) ?_
    refine ia_len (k := a1) (n := n1) X G hm1 ht1 hn1 rfl dX10_movesRow_4 ?_
    refine lv_icmp_ge (tgt := 24) hx hb dX10_movesRow_5 (by decide) (fun c1 => ?_) (fun c1 => ?_)
    · have hf := it_t hf c1
      exact rtWv X hlk G hr (so_i hf) dX10_movesRow_24
    · have hf := it_f hf c1
      refine lv_aload_n hx hb dX10_movesRow_8 rfl (lv_at hl 1 rfl) ?_
      refine lv_iload_n hx hb dX10_movesRow_9 rfl (lv_at hl 2 rfl) ?_
      refine lv_aload_n hx hb dX10_movesRow_10 rfl (lv_at hl 0 rfl) ?_
      refine lv_aload_n hx hb dX10_movesRow_11 rfl (lv_at hl 1 rfl) ?_
      refine lv_iload_n hx hb dX10_movesRow_12 rfl (lv_at hl 2 rfl) ?_
      obtain ⟨h2, hf⟩ := gd_s hf
      refine ia_ld (k := a1) (n := n1) X G hm1 ht1 hn1 (ix_in h2) dX10_movesRow_13 ?_
      obtain ⟨x5, s4, h3, hf⟩ := bw_s hf
      refine cVWi (As := [.int (st.1 a1 y2.toNatClampNeg)]) (rest := [.int y2, .ref (eq E a1)]) X G kc_X10_420 (tX10_moves l E st _ hL  (st.1 a1 y2.toNatClampNeg) h3) (rcv X G (hL 500 rfl) (cO10 rfl) rfl) rfl rfl (rmk_le (by omega) (by decide)) rfl hl.1 rfl (Nat.le_of_ble_eq_true rfl) dX10_movesRow_14 ⟨Nat.zero_le _, Nat.zero_le _⟩ (fun H locs G => ?_)
      obtain ⟨h6, hf⟩ := gd_s hf
      refine ia_st (k := a1) (n := n1) X G hm1 ht1 hn1 (ix_in h6) dX10_movesRow_17 (fun s7 es7 H locs G => ?_)
      have hf := nm_s hf s7 es7
      obtain ⟨x8, ex8⟩ : ∃ y : Int32, y = (y2 + (1 : Int32)) := ⟨_, rfl⟩
      have hf := nm_s hf x8 ex8
      refine lv_iinc (k := 2) (v := x8) (lv' := [(2, .int x8), (0, .ref (eq E 500)), (1, .ref (eq E a1))]) hx hb dX10_movesRow_18 hl rfl (by rw [ex8]; rfl) (by decide) rfl (fun ls hl => ?_)
      refine lv_goto (tgt := 2) hx hb dX10_movesRow_21 (by decide) ?_
      exact ih x8 s7 _ _ hf G _ (lv_sub hl [1, 2, 0] rfl)
def fX10_movesRow (a1 : Nat) (n1 : Nat) (st : St) : Option St := fX10_movesRow_L2 a1 n1 10000 (0 : Int32) st
set_option maxRecDepth 100000 in
theorem tX10_movesRow (l : Launch) (E : Ev) (st : St) (sz : Nat) (hL : ∀ k, fxM k = true → k ∈ eL E) {a1 : Nat} {n1 : Nat} (hm1 : a1 ∈ eL E) (ht1 : ty a1 = 10000 + n1) (hn1 : n1 < 10000)  {res : St} (hf : fX10_movesRow a1 n1  st = some res) : Met l yX10_movesRow (.code yX10_movesRow cX10_movesRow 3 none :: uW) (rmk 1) (va_Pc [.ref (eq E 500), .ref (eq E a1)] (Pre E st sz)) (QWv E res sz) 0 0 (Af E sz) := by
  refine Met_in (by decide) (Nat.le_of_ble_eq_true rfl) ?_
  intro p e s m below meth c X hr hlk hz G ls hl
  have hx := X.1.1
  have hb := X.1.2.1
  have hl : lv_has ls 3 [(0, .ref (eq E 500)), (1, .ref (eq E a1))] := hl
  unfold fX10_movesRow at hf
  refine lv_iconst (v := (0 : Int32)) hx hb dX10_movesRow_0 (by decide) ?_
  refine lv_istore_n (lv' := [(2, .int (0 : Int32)), (0, .ref (eq E 500)), (1, .ref (eq E a1))]) hx hb dX10_movesRow_1 rfl hl (by decide) rfl (fun ls hl => ?_)
  exact wX10_movesRow_L2 hL hm1 ht1 hn1 X hr hlk 10000 (0 : Int32) st _ _ hf G _ (lv_sub hl [1, 2, 0] rfl)
def fX10_movesAll_L16 (p1 : Int32) (p2 : Int32) : Nat → Int32 → St → Option St
  | 0, _, _ => none
  | n + 1, y3, st => if (8 : Int32) < y3 then (br (fX10_movesRow 503 8 st) (fun s3 => br (fX10_movesRow 504 8 s3) (fun s5 => br (fX10_movesRow 506 8 s5) (fun s7 => br (fX10_movesRow 508 8 s7) (fun s9 => br (fX10_movesRow 509 3 s9) (fun s11 => br (fX10_movesRow 511 3 s11) (fun s13 => some s13))))))) else (gd (ix y3 12) (bw (fX10_moves (st.1 502 y3.toNatClampNeg) st) (fun x5 s4 => gd (ix y3 12) (nm (ui s4 502 y3.toNatClampNeg x5) (fun s7 => nm (y3 + (1 : Int32)) (fun x8 => (fX10_movesAll_L16 p1 p2 n) x8 s7))))))
set_option maxRecDepth 100000 in
theorem wX10_movesAll_L16 {p : Program} {l : Launch} {e : Env} {s : State} {m : MethodId} {args : Array Value} {below : List Frame} {meth : Method} {c : Code} {E : Ev} (hL : ∀ k, fxM k = true → k ∈ eL E) {p1 : Int32} {p2 : Int32} {sz : Nat} {res : St} (X : CX p s m args c E RX10 cX10_movesAll 4 (Af E sz)) (hr : meth.sig.returnType = none) (hlk : meth.locks = false) : ∀ (n : Nat) (y3 : Int32) (st : St) (H : Heap) (locs : List Loc), fX10_movesAll_L16 p1 p2  n y3 st = some res → Gd E st (Af E sz) s H locs → ∀ ls : Array Slot, lv_has ls 4 [(0, .ref (eq E 500)), (3, .int y3)] → W p l e (rmk 2) s m args below meth c H locs 0 0 (MQ below (QWv E res sz) args s 0 0 (Af E sz)) (F0 m 16 ls []) := by
  have hx := X.1.1
  have hb := X.1.2.1
  intro n
  induction n with
  | zero =>
    intro y3 st H locs hf G ls hl
    cases (show (none : Option St) = some res from hf)
  | succ n ih =>
    intro y3 st H locs hf G ls hl
    rw [fX10_movesAll_L16] at hf
    refine lv_iload_n hx hb dX10_movesAll_16 rfl (lv_at hl 1 rfl) ?_
    refine lv_bipush (v := (8 : Int32)) hx hb dX10_movesAll_17 (by decide) ?_
    refine lv_icmp_gt (tgt := 44) hx hb dX10_movesAll_19 (by decide) (fun c1 => ?_) (fun c1 => ?_)
    · have hf := it_t hf c1
      refine lv_aload_n hx hb dX10_movesAll_44 rfl (lv_at hl 0 rfl) ?_
      refine lv_aload_n hx hb dX10_movesAll_45 rfl (lv_at hl 0 rfl) ?_
      refine gf10 X G (hL 500 rfl) rfl 2 (by decide) rfl kf_X10_13 iwX10 dX10_movesAll_46 ?_
      obtain ⟨s3, h2, hf⟩ := br_s hf
      refine cVWv (As := [.ref (eq E 503)]) (rest := []) X G kc_X10_423 (tX10_movesRow l E st _ hL (hL 503 rfl) rfl (by decide)  h2) (rcv X G (hL 500 rfl) (cO10 rfl) rfl) rfl rfl (rmk_le (by omega) (by decide)) rfl hl.1 rfl (Nat.le_of_ble_eq_true rfl) dX10_movesAll_49 ⟨Nat.zero_le _, Nat.zero_le _⟩ (fun H locs G => ?_)
      refine lv_aload_n hx hb dX10_movesAll_52 rfl (lv_at hl 0 rfl) ?_
      refine lv_aload_n hx hb dX10_movesAll_53 rfl (lv_at hl 0 rfl) ?_
      refine gf10 X G (hL 500 rfl) rfl 3 (by decide) rfl kf_X10_16 iwX10 dX10_movesAll_54 ?_
      obtain ⟨s5, h4, hf⟩ := br_s hf
      refine cVWv (As := [.ref (eq E 504)]) (rest := []) X G kc_X10_423 (tX10_movesRow l E s3 _ hL (hL 504 rfl) rfl (by decide)  h4) (rcv X G (hL 500 rfl) (cO10 rfl) rfl) rfl rfl (rmk_le (by omega) (by decide)) rfl hl.1 rfl (Nat.le_of_ble_eq_true rfl) dX10_movesAll_57 ⟨Nat.zero_le _, Nat.zero_le _⟩ (fun H locs G => ?_)
      refine lv_aload_n hx hb dX10_movesAll_60 rfl (lv_at hl 0 rfl) ?_
      refine lv_aload_n hx hb dX10_movesAll_61 rfl (lv_at hl 0 rfl) ?_
      refine gf10 X G (hL 500 rfl) rfl 5 (by decide) rfl kf_X10_22 iwX10 dX10_movesAll_62 ?_
      obtain ⟨s7, h6, hf⟩ := br_s hf
      refine cVWv (As := [.ref (eq E 506)]) (rest := []) X G kc_X10_423 (tX10_movesRow l E s5 _ hL (hL 506 rfl) rfl (by decide)  h6) (rcv X G (hL 500 rfl) (cO10 rfl) rfl) rfl rfl (rmk_le (by omega) (by decide)) rfl hl.1 rfl (Nat.le_of_ble_eq_true rfl) dX10_movesAll_65 ⟨Nat.zero_le _, Nat.zero_le _⟩ (fun H locs G => ?_)
      refine lv_aload_n hx hb dX10_movesAll_68 rfl (lv_at hl 0 rfl) ?_
      refine lv_aload_n hx hb dX10_movesAll_69 rfl (lv_at hl 0 rfl) ?_
      refine gf10 X G (hL 500 rfl) rfl 7 (by decide) rfl kf_X10_28 iwX10 dX10_movesAll_70 ?_
      obtain ⟨s9, h8, hf⟩ := br_s hf
      refine cVWv (As := [.ref (eq E 508)]) (rest := []) X G kc_X10_423 (tX10_movesRow l E s7 _ hL (hL 508 rfl) rfl (by decide)  h8) (rcv X G (hL 500 rfl) (cO10 rfl) rfl) rfl rfl (rmk_le (by omega) (by decide)) rfl hl.1 rfl (Nat.le_of_ble_eq_true rfl) dX10_movesAll_73 ⟨Nat.zero_le _, Nat.zero_le _⟩ (fun H locs G => ?_)
      refine lv_aload_n hx hb dX10_movesAll_76 rfl (lv_at hl 0 rfl) ?_
      refine lv_aload_n hx hb dX10_movesAll_77 rfl (lv_at hl 0 rfl) ?_
      refine gf10 X G (hL 500 rfl) rfl 8 (by decide) rfl kf_X10_31 iwX10 dX10_movesAll_78 ?_
      obtain ⟨s11, h10, hf⟩ := br_s hf
      refine cVWv (As := [.ref (eq E 509)]) (rest := []) X G kc_X10_423 (tX10_movesRow l E s9 _ hL (hL 509 rfl) rfl (by decide)  h10) (rcv X G (hL 500 rfl) (cO10 rfl) rfl) rfl rfl (rmk_le (by omega) (by decide)) rfl hl.1 rfl (Nat.le_of_ble_eq_true rfl) dX10_movesAll_81 ⟨Nat.zero_le _, Nat.zero_le _⟩ (fun H locs G => ?_)
      refine lv_aload_n hx hb dX10_movesAll_84 rfl (lv_at hl 0 rfl) ?_
      refine lv_aload_n hx hb dX10_movesAll_85 rfl (lv_at hl 0 rfl) ?_
      refine gf10 X G (hL 500 rfl) rfl 10 (by decide) rfl kf_X10_37 iwX10 dX10_movesAll_86 ?_
      obtain ⟨s13, h12, hf⟩ := br_s hf
      refine cVWv (As := [.ref (eq E 511)]) (rest := []) X G kc_X10_423 (tX10_movesRow l E s11 _ hL (hL 511 rfl) rfl (by decide)  h12) (rcv X G (hL 500 rfl) (cO10 rfl) rfl) rfl rfl (rmk_le (by omega) (by decide)) rfl hl.1 rfl (Nat.le_of_ble_eq_true rfl) dX10_movesAll_89 ⟨Nat.zero_le _, Nat.zero_le _⟩ (fun H locs G => ?_)
      exact rtWv X hlk G hr (so_i hf) dX10_movesAll_92
    · have hf := it_f hf c1
      refine lv_aload_n hx hb dX10_movesAll_22 rfl (lv_at hl 0 rfl) ?_
      refine gf10 X G (hL 500 rfl) rfl 1 (by decide) rfl kf_X10_9 iwX10 dX10_movesAll_23 ?_
      refine lv_iload_n hx hb dX10_movesAll_26 rfl (lv_at hl 1 rfl) ?_
      refine lv_aload_n hx hb dX10_movesAll_27 rfl (lv_at hl 0 rfl) ?_
      refine lv_aload_n hx hb dX10_movesAll_28 rfl (lv_at hl 0 rfl) ?_
      refine gf10 X G (hL 500 rfl) rfl 1 (by decide) rfl kf_X10_9 iwX10 dX10_movesAll_29 ?_
      refine lv_iload_n hx hb dX10_movesAll_32 rfl (lv_at hl 1 rfl) ?_
      obtain ⟨h2, hf⟩ := gd_s hf
      refine ia_ld (k := 502) (n := 12) X G (hL 502 rfl) rfl (by decide) (ix_in h2) dX10_movesAll_33 ?_
      obtain ⟨x5, s4, h3, hf⟩ := bw_s hf
      refine cVWi (As := [.int (st.1 502 y3.toNatClampNeg)]) (rest := [.int y3, .ref (eq E 502)]) X G kc_X10_420 (tX10_moves l E st _ hL  (st.1 502 y3.toNatClampNeg) h3) (rcv X G (hL 500 rfl) (cO10 rfl) rfl) rfl rfl (rmk_le (by omega) (by decide)) rfl hl.1 rfl (Nat.le_of_ble_eq_true rfl) dX10_movesAll_34 ⟨Nat.zero_le _, Nat.zero_le _⟩ (fun H locs G => ?_)
      obtain ⟨h6, hf⟩ := gd_s hf
      refine ia_st (k := 502) (n := 12) X G (hL 502 rfl) rfl (by decide) (ix_in h6) dX10_movesAll_37 (fun s7 es7 H locs G => ?_)
      have hf := nm_s hf s7 es7
      obtain ⟨x8, ex8⟩ : ∃ y : Int32, y = (y3 + (1 : Int32)) := ⟨_, rfl⟩
      have hf := nm_s hf x8 ex8
      refine lv_iinc (k := 1) (v := x8) (lv' := [(3, .int x8), (0, .ref (eq E 500))]) hx hb dX10_movesAll_38 hl rfl (by rw [ex8]; rfl) (by decide) rfl (fun ls hl => ?_)
      refine lv_goto (tgt := 16) hx hb dX10_movesAll_41 (by decide) ?_
      exact ih x8 s7 _ _ hf G _ (lv_sub hl [1, 0] rfl)
def fX10_movesAll (p1 : Int32) (p2 : Int32) (st : St) : Option St := nm (ui st 500 53 ((41 : Int32) * p1)) (fun s1 => gd (bz p2) (nm (ui s1 500 54 p2) (fun s2 => fX10_movesAll_L16 p1 p2 10000 (6 : Int32) s2)))
set_option maxRecDepth 100000 in
theorem tX10_movesAll (l : Launch) (E : Ev) (st : St) (sz : Nat) (hL : ∀ k, fxM k = true → k ∈ eL E) (p1 : Int32) (p2 : Int32) {res : St} (hf : fX10_movesAll  p1 p2 st = some res) : Met l yX10_movesAll (.code yX10_movesAll cX10_movesAll 4 none :: uW) (rmk 2) (va_Pc [.ref (eq E 500), .int p1, .int p2] (Pre E st sz)) (QWv E res sz) 0 0 (Af E sz) := by
  refine Met_in (by decide) (Nat.le_of_ble_eq_true rfl) ?_
  intro p e s m below meth c X hr hlk hz G ls hl
  have hx := X.1.1
  have hb := X.1.2.1
  have hl : lv_has ls 4 [(0, .ref (eq E 500)), (1, .int p1), (2, .int p2)] := hl
  unfold fX10_movesAll at hf
  refine lv_aload_n hx hb dX10_movesAll_0 rfl (lv_at hl 0 rfl) ?_
  refine lv_bipush (v := (41 : Int32)) hx hb dX10_movesAll_1 (by decide) ?_
  refine lv_iload_n hx hb dX10_movesAll_3 rfl (lv_at hl 1 rfl) ?_
  refine lv_imul hx hb dX10_movesAll_4 ?_
  refine pf10 X G (hL 500 rfl) rfl 53 (by decide) ps10_53 uio kf_X10_417 iwX10 rfl (ty := .int) (by decide +kernel) rfl rfl dX10_movesAll_5 (fun s1 es1 H locs G => ?_)
  have hf := nm_s hf s1 es1
  refine lv_aload_n hx hb dX10_movesAll_8 rfl (lv_at hl 0 rfl) ?_
  refine lv_iload_n hx hb dX10_movesAll_9 rfl (lv_at hl 2 rfl) ?_
  obtain ⟨h3, hf⟩ := gd_s hf
  refine pf10 X G (hL 500 rfl) rfl 54 (by decide) ps10_54 uio kf_X10_414 iwX10 rfl (ty := .boolean) (by decide +kernel) (bz_n h3) (bz_f h3) dX10_movesAll_10 (fun s2 es2 H locs G => ?_)
  have hf := nm_s hf s2 es2
  refine lv_bipush (v := (6 : Int32)) hx hb dX10_movesAll_13 (by decide) ?_
  refine lv_istore_n (lv' := [(3, .int (6 : Int32)), (0, .ref (eq E 500)), (1, .int p1), (2, .int p2)]) hx hb dX10_movesAll_15 rfl hl (by decide) rfl (fun ls hl => ?_)
  exact wX10_movesAll_L16 hL X hr hlk 10000 (6 : Int32) s2 _ _ hf G _ (lv_sub hl [1, 0] rfl)
def fX10_keepsAct_B50 (st : St) : Option St := br (fX10_movesAll (st.1 500 52) (0 : Int32) st) (fun s2 => nm (ui s2 500 52 ((s2.1 500 52) + (1 : Int32))) (fun s3 => some s3))
set_option maxRecDepth 100000 in
theorem wX10_keepsAct_B50 {p : Program} {l : Launch} {e : Env} {s : State} {m : MethodId} {args : Array Value} {below : List Frame} {meth : Method} {c : Code} {E : Ev} (hL : ∀ k, fxM k = true → k ∈ eL E) {sz : Nat} {res : St} (X : CX p s m args c E RX10 cX10_keepsAct 2 (Af E sz)) (hr : meth.sig.returnType = none) (hlk : meth.locks = false) : ∀  (st : St) (H : Heap) (locs : List Loc), fX10_keepsAct_B50    st = some res → Gd E st (Af E sz) s H locs → ∀ ls : Array Slot, lv_has ls 2 [(0, .ref (eq E 500))] → W p l e (rmk 3) s m args below meth c H locs 0 0 (MQ below (QWv E res sz) args s 0 0 (Af E sz)) (F0 m 50 ls []) := by
  have hx := X.1.1
  have hb := X.1.2.1
  intro  st H locs hf G ls hl
  unfold fX10_keepsAct_B50 at hf
  refine lv_aload_n hx hb dX10_keepsAct_50 rfl (lv_at hl 0 rfl) ?_
  refine lv_aload_n hx hb dX10_keepsAct_51 rfl (lv_at hl 0 rfl) ?_
  refine gf10 X G (hL 500 rfl) rfl 52 (by decide) rfl kf_X10_334 iwX10 dX10_keepsAct_52 ?_
  refine lv_iconst (v := (0 : Int32)) hx hb dX10_keepsAct_55 (by decide) ?_
  obtain ⟨s2, h1, hf⟩ := br_s hf
  refine cVWv (As := [.int (st.1 500 52), .int (0 : Int32)]) (rest := []) X G kc_X10_427 (tX10_movesAll l E st _ hL  (st.1 500 52) (0 : Int32) h1) (rcv X G (hL 500 rfl) (cO10 rfl) rfl) rfl rfl (rmk_le (by omega) (by decide)) rfl hl.1 rfl (Nat.le_of_ble_eq_true rfl) dX10_keepsAct_56 ⟨Nat.zero_le _, Nat.zero_le _⟩ (fun H locs G => ?_)
  refine lv_aload_n hx hb dX10_keepsAct_59 rfl (lv_at hl 0 rfl) ?_
  refine lv_dup hx hb dX10_keepsAct_60 rfl ?_
  refine gf10 X G (hL 500 rfl) rfl 52 (by decide) rfl kf_X10_334 iwX10 dX10_keepsAct_61 ?_
  refine lv_iconst (v := (1 : Int32)) hx hb dX10_keepsAct_64 (by decide) ?_
  refine lv_iadd hx hb dX10_keepsAct_65 ?_
  refine pf10 X G (hL 500 rfl) rfl 52 (by decide) ps10_52 uio kf_X10_334 iwX10 rfl (ty := .int) (by decide +kernel) rfl rfl dX10_keepsAct_66 (fun s3 es3 H locs G => ?_)
  have hf := nm_s hf s3 es3
  exact rtWv X hlk G hr (so_i hf) dX10_keepsAct_69
def fX10_keepsAct_L12 : Nat → Int32 → St → Option St
  | 0, _, _ => none
  | n + 1, y1, st => if (820 : Int32) ≤ y1 then (nm (ui st 500 52 ((st.1 500 52) - (1 : Int32))) (fun s2 => fX10_keepsAct_B50 s2)) else (gd (ix y1 820) (gd (ix (y1 - (41 : Int32)) 820) (nm (ui st 551 (y1 - (41 : Int32)).toNatClampNeg (st.1 551 y1.toNatClampNeg)) (fun s4 => nm (y1 + (1 : Int32)) (fun x5 => (fX10_keepsAct_L12 n) x5 s4)))))
set_option maxRecDepth 100000 in
theorem wX10_keepsAct_L12 {p : Program} {l : Launch} {e : Env} {s : State} {m : MethodId} {args : Array Value} {below : List Frame} {meth : Method} {c : Code} {E : Ev} (hL : ∀ k, fxM k = true → k ∈ eL E) {sz : Nat} {res : St} (X : CX p s m args c E RX10 cX10_keepsAct 2 (Af E sz)) (hr : meth.sig.returnType = none) (hlk : meth.locks = false) : ∀ (n : Nat) (y1 : Int32) (st : St) (H : Heap) (locs : List Loc), fX10_keepsAct_L12   n y1 st = some res → Gd E st (Af E sz) s H locs → ∀ ls : Array Slot, lv_has ls 2 [(0, .ref (eq E 500)), (1, .int y1)] → W p l e (rmk 3) s m args below meth c H locs 0 0 (MQ below (QWv E res sz) args s 0 0 (Af E sz)) (F0 m 12 ls []) := by
  have hx := X.1.1
  have hb := X.1.2.1
  intro n
  induction n with
  | zero =>
    intro y1 st H locs hf G ls hl
    cases (show (none : Option St) = some res from hf)
  | succ n ih =>
    intro y1 st H locs hf G ls hl
    rw [fX10_keepsAct_L12] at hf
    refine lv_iload_n hx hb dX10_keepsAct_12 rfl (lv_at hl 1 rfl) ?_
    refine lv_sipush (v := (820 : Int32)) hx hb dX10_keepsAct_13 (by decide) ?_
    refine lv_icmp_ge (tgt := 40) hx hb dX10_keepsAct_16 (by decide) (fun c1 => ?_) (fun c1 => ?_)
    · have hf := it_t hf c1
      refine lv_aload_n hx hb dX10_keepsAct_40 rfl (lv_at hl 0 rfl) ?_
      refine lv_dup hx hb dX10_keepsAct_41 rfl ?_
      refine gf10 X G (hL 500 rfl) rfl 52 (by decide) rfl kf_X10_334 iwX10 dX10_keepsAct_42 ?_
      refine lv_iconst (v := (1 : Int32)) hx hb dX10_keepsAct_45 (by decide) ?_
      refine lv_isub hx hb dX10_keepsAct_46 ?_
      refine pf10 X G (hL 500 rfl) rfl 52 (by decide) ps10_52 uio kf_X10_334 iwX10 rfl (ty := .int) (by decide +kernel) rfl rfl dX10_keepsAct_47 (fun s2 es2 H locs G => ?_)
      have hf := nm_s hf s2 es2
      exact wX10_keepsAct_B50 hL X hr hlk s2 _ _ hf G _ (lv_sub hl [0] rfl)
    · have hf := it_f hf c1
      refine lv_aload_n hx hb dX10_keepsAct_19 rfl (lv_at hl 0 rfl) ?_
      refine gf10 X G (hL 500 rfl) rfl 50 (by decide) rfl kf_X10_127 iwX10 dX10_keepsAct_20 ?_
      refine lv_iload_n hx hb dX10_keepsAct_23 rfl (lv_at hl 1 rfl) ?_
      refine lv_bipush (v := (41 : Int32)) hx hb dX10_keepsAct_24 (by decide) ?_
      refine lv_isub hx hb dX10_keepsAct_26 ?_
      refine lv_aload_n hx hb dX10_keepsAct_27 rfl (lv_at hl 0 rfl) ?_
      refine gf10 X G (hL 500 rfl) rfl 50 (by decide) rfl kf_X10_127 iwX10 dX10_keepsAct_28 ?_
      refine lv_iload_n hx hb dX10_keepsAct_31 rfl (lv_at hl 1 rfl) ?_
      obtain ⟨h2, hf⟩ := gd_s hf
      refine ia_ld (k := 551) (n := 820) X G (hL 551 rfl) rfl (by decide) (ix_in h2) dX10_keepsAct_32 ?_
      obtain ⟨h3, hf⟩ := gd_s hf
      refine ia_st (k := 551) (n := 820) X G (hL 551 rfl) rfl (by decide) (ix_in h3) dX10_keepsAct_33 (fun s4 es4 H locs G => ?_)
      have hf := nm_s hf s4 es4
      obtain ⟨x5, ex5⟩ : ∃ y : Int32, y = (y1 + (1 : Int32)) := ⟨_, rfl⟩
      have hf := nm_s hf x5 ex5
      refine lv_iinc (k := 1) (v := x5) (lv' := [(1, .int x5), (0, .ref (eq E 500))]) hx hb dX10_keepsAct_34 hl rfl (by rw [ex5]; rfl) (by decide) rfl (fun ls hl => ?_)
      refine lv_goto (tgt := 12) hx hb dX10_keepsAct_37 (by decide) ?_
      exact ih x5 s4 _ _ hf G _ (lv_sub hl [1, 0] rfl)
def fX10_keepsAct (st : St) : Option St := if (st.1 500 52) = (20 : Int32) then (fX10_keepsAct_L12 10000 (41 : Int32) st) else (fX10_keepsAct_B50 st)
set_option maxRecDepth 100000 in
theorem tX10_keepsAct (l : Launch) (E : Ev) (st : St) (sz : Nat) (hL : ∀ k, fxM k = true → k ∈ eL E)  {res : St} (hf : fX10_keepsAct   st = some res) : Met l yX10_keepsAct (.code yX10_keepsAct cX10_keepsAct 2 none :: uW) (rmk 3) (va_Pc [.ref (eq E 500)] (Pre E st sz)) (QWv E res sz) 0 0 (Af E sz) := by
  refine Met_in (by decide) (Nat.le_of_ble_eq_true rfl) ?_
  intro p e s m below meth c X hr hlk hz G ls hl
  have hx := X.1.1
  have hb := X.1.2.1
  have hl : lv_has ls 2 [(0, .ref (eq E 500))] := hl
  unfold fX10_keepsAct at hf
  refine lv_aload_n hx hb dX10_keepsAct_0 rfl (lv_at hl 0 rfl) ?_
  refine gf10 X G (hL 500 rfl) rfl 52 (by decide) rfl kf_X10_334 iwX10 dX10_keepsAct_1 ?_
  refine lv_bipush (v := (20 : Int32)) hx hb dX10_keepsAct_4 (by decide) ?_
  refine lv_icmp_ne (tgt := 50) hx hb dX10_keepsAct_6 (by decide) (fun c1 => ?_) (fun c1 => ?_)
  · have hf := it_f hf c1
    exact wX10_keepsAct_B50 hL X hr hlk st _ _ hf G _ (lv_sub hl [0] rfl)
  · have hf := it_t hf c1
    refine lv_bipush (v := (41 : Int32)) hx hb dX10_keepsAct_9 (by decide) ?_
    refine lv_istore_n (lv' := [(1, .int (41 : Int32)), (0, .ref (eq E 500))]) hx hb dX10_keepsAct_11 rfl hl (by decide) rfl (fun ls hl => ?_)
    exact wX10_keepsAct_L12 hL X hr hlk 10000 (41 : Int32) st _ _ hf G _ (lv_sub hl [1, 0] rfl)
def fX10_undo (st : St) : Option (Int32 × St) := if (st.1 500 52) = 0 then (some ((-2 : Int32), st)) else (nm (ui st 500 52 ((st.1 500 52) - (1 : Int32))) (fun s2 => br (fX10_movesAll (s2.1 500 52) (1 : Int32) s2) (fun s4 => some ((s4.1 500 52), s4))))
set_option maxRecDepth 100000 in
theorem tX10_undo (l : Launch) (E : Ev) (st : St) (sz : Nat) (hL : ∀ k, fxM k = true → k ∈ eL E)  {res : (Int32 × St)} (hf : fX10_undo   st = some res) : Met l yX10_undo (.code yX10_undo cX10_undo 1 (some .int) :: uW) (rmk 3) (va_Pc [.ref (eq E 500)] (Pre E st sz)) (QWi E res.2 sz res.1) 0 0 (Af E sz) := by
  refine Met_in (by decide) (Nat.le_of_ble_eq_true rfl) ?_
  intro p e s m below meth c X hr hlk hz G ls hl
  have hx := X.1.1
  have hb := X.1.2.1
  have hl : lv_has ls 1 [(0, .ref (eq E 500))] := hl
  unfold fX10_undo at hf
  refine lv_aload_n hx hb dX10_undo_0 rfl (lv_at hl 0 rfl) ?_
  refine gf10 X G (hL 500 rfl) rfl 52 (by decide) rfl kf_X10_334 iwX10 dX10_undo_1 ?_
  refine lv_if_ne (tgt := 10) hx hb dX10_undo_4 (by decide) (fun c1 => ?_) (fun c1 => ?_)
  · have hf := it_f hf c1
    refine lv_aload_n hx hb dX10_undo_10 rfl (lv_at hl 0 rfl) ?_
    refine lv_dup hx hb dX10_undo_11 rfl ?_
    refine gf10 X G (hL 500 rfl) rfl 52 (by decide) rfl kf_X10_334 iwX10 dX10_undo_12 ?_
    refine lv_iconst (v := (1 : Int32)) hx hb dX10_undo_15 (by decide) ?_
    refine lv_isub hx hb dX10_undo_16 ?_
    refine pf10 X G (hL 500 rfl) rfl 52 (by decide) ps10_52 uio kf_X10_334 iwX10 rfl (ty := .int) (by decide +kernel) rfl rfl dX10_undo_17 (fun s2 es2 H locs G => ?_)
    have hf := nm_s hf s2 es2
    refine lv_aload_n hx hb dX10_undo_20 rfl (lv_at hl 0 rfl) ?_
    refine lv_aload_n hx hb dX10_undo_21 rfl (lv_at hl 0 rfl) ?_
    refine gf10 X G (hL 500 rfl) rfl 52 (by decide) rfl kf_X10_334 iwX10 dX10_undo_22 ?_
    refine lv_iconst (v := (1 : Int32)) hx hb dX10_undo_25 (by decide) ?_
    obtain ⟨s4, h3, hf⟩ := br_s hf
    refine cVWv (As := [.int (s2.1 500 52), .int (1 : Int32)]) (rest := []) X G kc_X10_427 (tX10_movesAll l E s2 _ hL  (s2.1 500 52) (1 : Int32) h3) (rcv X G (hL 500 rfl) (cO10 rfl) rfl) rfl rfl (rmk_le (by omega) (by decide)) rfl hl.1 rfl (Nat.le_of_ble_eq_true rfl) dX10_undo_26 ⟨Nat.zero_le _, Nat.zero_le _⟩ (fun H locs G => ?_)
    refine lv_aload_n hx hb dX10_undo_29 rfl (lv_at hl 0 rfl) ?_
    refine gf10 X G (hL 500 rfl) rfl 52 (by decide) rfl kf_X10_334 iwX10 dX10_undo_30 ?_
    exact rtWi X hlk G hr (so_i hf) dX10_undo_33
  · have hf := it_t hf c1
    refine lv_bipush (v := (-2 : Int32)) hx hb dX10_undo_7 (by decide) ?_
    exact rtWi X hlk G hr (so_i hf) dX10_undo_9
def fX10_night (st : St) : Option (Int32 × St) := if (st.1 500 28) = 0 then (some ((-1 : Int32), st)) else (if (st.1 502 6) = (999 : Int32) then (some ((-1 : Int32), st)) else (br (fX10_keepsAct st) (fun s5 => bw (fX10_goes s5) (fun x8 s7 => some (x8, s7)))))
set_option maxRecDepth 100000 in
theorem tX10_night (l : Launch) (E : Ev) (st : St) (sz : Nat) (hL : ∀ k, fxM k = true → k ∈ eL E)  {res : (Int32 × St)} (hf : fX10_night   st = some res) : Met l yX10_night (.code yX10_night cX10_night 1 (some .int) :: uW) (rmk 7) (va_Pc [.ref (eq E 500)] (Pre E st sz)) (QWi E res.2 sz res.1) 0 0 (Af E sz) := by
  refine Met_in (by decide) (Nat.le_of_ble_eq_true rfl) ?_
  intro p e s m below meth c X hr hlk hz G ls hl
  have hx := X.1.1
  have hb := X.1.2.1
  have hl : lv_has ls 1 [(0, .ref (eq E 500))] := hl
  unfold fX10_night at hf
  refine lv_aload_n hx hb dX10_night_0 rfl (lv_at hl 0 rfl) ?_
  refine gf10 X G (hL 500 rfl) rfl 28 (by decide) rfl kf_X10_327 iwX10 dX10_night_1 ?_
  refine lv_if_eq (tgt := 20) hx hb dX10_night_4 (by decide) (fun c1 => ?_) (fun c1 => ?_)
  · have hf := it_t hf c1
    refine lv_iconst (v := (-1 : Int32)) hx hb dX10_night_20 (by decide) ?_
    exact rtWi X hlk G hr (so_i hf) dX10_night_21
  · have hf := it_f hf c1
    refine lv_aload_n hx hb dX10_night_7 rfl (lv_at hl 0 rfl) ?_
    refine gf10 X G (hL 500 rfl) rfl 1 (by decide) rfl kf_X10_9 iwX10 dX10_night_8 ?_
    refine lv_bipush (v := (6 : Int32)) hx hb dX10_night_11 (by decide) ?_
    refine ia_ldc (k := 502) (n := 12) X G (hL 502 rfl) rfl (by decide) 6 (by decide) dX10_night_13 ?_
    refine lv_sipush (v := (999 : Int32)) hx hb dX10_night_14 (by decide) ?_
    refine lv_icmp_ne (tgt := 22) hx hb dX10_night_17 (by decide) (fun c3 => ?_) (fun c3 => ?_)
    · have hf := it_f hf c3
      refine lv_aload_n hx hb dX10_night_22 rfl (lv_at hl 0 rfl) ?_
      obtain ⟨s5, h4, hf⟩ := br_s hf
      refine cVWv (As := []) (rest := []) X G kc_X10_431 (tX10_keepsAct l E st _ hL   h4) (rcv X G (hL 500 rfl) (cO10 rfl) rfl) rfl rfl (rmk_le (by omega) (by decide)) rfl hl.1 rfl (Nat.le_of_ble_eq_true rfl) dX10_night_23 ⟨Nat.zero_le _, Nat.zero_le _⟩ (fun H locs G => ?_)
      refine lv_aload_n hx hb dX10_night_26 rfl (lv_at hl 0 rfl) ?_
      obtain ⟨x8, s7, h6, hf⟩ := bw_s hf
      refine cVWi (As := []) (rest := []) X G kc_X10_411 (tX10_goes l E s5 _ hL   h6) (rcv X G (hL 500 rfl) (cO10 rfl) rfl) rfl rfl (rmk_le (by omega) (by decide)) rfl hl.1 rfl (Nat.le_of_ble_eq_true rfl) dX10_night_27 ⟨Nat.zero_le _, Nat.zero_le _⟩ (fun H locs G => ?_)
      exact rtWi X hlk G hr (so_i hf) dX10_night_30
    · have hf := it_t hf c3
      refine lv_iconst (v := (-1 : Int32)) hx hb dX10_night_20 (by decide) ?_
      exact rtWi X hlk G hr (so_i hf) dX10_night_21
def fX10_fell (p1 : Int32) (p2 : Int32) (st : St) : Option (Int32 × St) := br (fX10_isHouse st p1) (fun x2 => if x2 = 0 then (some ((-1 : Int32), st)) else (br (fX10_in (Int32.toInt64 p2) (1 : Int64) (9 : Int64)) (fun x5 => if x5 = 0 then (some ((-1 : Int32), st)) else (gd (ix p1 8) (if ((st.1 504 p1.toNatClampNeg) + p2) ≤ (99 : Int32) then (br (fX10_keepsAct st) (fun s10 => gd (ix p1 8) (gd (ix p1 8) (nm (ui s10 504 p1.toNatClampNeg ((s10.1 504 p1.toNatClampNeg) + p2)) (fun s13 => gd (ix p1 8) (some ((s13.1 504 p1.toNatClampNeg), s13))))))) else (some ((-1 : Int32), st)))))))
set_option maxRecDepth 100000 in
theorem tX10_fell (l : Launch) (E : Ev) (st : St) (sz : Nat) (hL : ∀ k, fxM k = true → k ∈ eL E) (p1 : Int32) (p2 : Int32) {res : (Int32 × St)} (hf : fX10_fell  p1 p2 st = some res) : Met l yX10_fell (.code yX10_fell cX10_fell 3 (some .int) :: uW) (rmk 4) (va_Pc [.ref (eq E 500), .int p1, .int p2] (Pre E st sz)) (QWi E res.2 sz res.1) 0 0 (Af E sz) := by
  refine Met_in (by decide) (Nat.le_of_ble_eq_true rfl) ?_
  intro p e s m below meth c X hr hlk hz G ls hl
  have hx := X.1.1
  have hb := X.1.2.1
  have hl : lv_has ls 3 [(0, .ref (eq E 500)), (1, .int p1), (2, .int p2)] := hl
  unfold fX10_fell at hf
  refine lv_aload_n hx hb dX10_fell_0 rfl (lv_at hl 0 rfl) ?_
  refine lv_iload_n hx hb dX10_fell_1 rfl (lv_at hl 1 rfl) ?_
  obtain ⟨x2, h1, hf⟩ := br_s hf
  refine cVRi (As := [.int p1]) (rest := []) X G kc_X10_367 (tX10_isHouse l E st _ hL  p1 h1) (rcv X G (hL 500 rfl) (cO10 rfl) rfl) rfl rfl (rmk_le (by omega) (by decide)) rfl hl.1 rfl (Nat.le_of_ble_eq_true rfl) dX10_fell_2 ⟨Nat.zero_le _, Nat.zero_le _⟩ ?_
  refine lv_if_eq (tgt := 33) hx hb dX10_fell_5 (by decide) (fun c3 => ?_) (fun c3 => ?_)
  · have hf := it_t hf c3
    refine lv_iconst (v := (-1 : Int32)) hx hb dX10_fell_33 (by decide) ?_
    exact rtWi X hlk G hr (so_i hf) dX10_fell_34
  · have hf := it_f hf c3
    refine lv_iload_n hx hb dX10_fell_8 rfl (lv_at hl 2 rfl) ?_
    refine lv_i2l hx hb dX10_fell_9 rfl ?_
    refine lv_lconst (v := (1 : Int64)) hx hb dX10_fell_10 (by decide) ?_
    refine lv_ldc2 (v := (9 : Int64)) hx hb X.1.2.2.2.1 (X.1.2.2.2.2 _ kk_X10_434) dX10_fell_11 ?_
    obtain ⟨x5, h4, hf⟩ := br_s hf
    refine cSRi (As := [.long (Int32.toInt64 p2), .long (1 : Int64), .long (9 : Int64)]) (rest := []) X G kc_X10_152 (tX10_in l E st _  (Int32.toInt64 p2) (1 : Int64) (9 : Int64) h4) rfl rfl (rmk_le (by omega) (by decide)) rfl hl.1 rfl (Nat.le_of_ble_eq_true rfl) dX10_fell_14 ⟨Nat.zero_le _, Nat.zero_le _⟩ ?_
    refine lv_if_eq (tgt := 33) hx hb dX10_fell_17 (by decide) (fun c6 => ?_) (fun c6 => ?_)
    · have hf := it_t hf c6
      refine lv_iconst (v := (-1 : Int32)) hx hb dX10_fell_33 (by decide) ?_
      exact rtWi X hlk G hr (so_i hf) dX10_fell_34
    · have hf := it_f hf c6
      refine lv_aload_n hx hb dX10_fell_20 rfl (lv_at hl 0 rfl) ?_
      refine gf10 X G (hL 500 rfl) rfl 3 (by decide) rfl kf_X10_16 iwX10 dX10_fell_21 ?_
      refine lv_iload_n hx hb dX10_fell_24 rfl (lv_at hl 1 rfl) ?_
      obtain ⟨h7, hf⟩ := gd_s hf
      refine ia_ld (k := 504) (n := 8) X G (hL 504 rfl) rfl (by decide) (ix_in h7) dX10_fell_25 ?_
      refine lv_iload_n hx hb dX10_fell_26 rfl (lv_at hl 2 rfl) ?_
      refine lv_iadd hx hb dX10_fell_27 ?_
      refine lv_bipush (v := (99 : Int32)) hx hb dX10_fell_28 (by decide) ?_
      refine lv_icmp_le (tgt := 35) hx hb dX10_fell_30 (by decide) (fun c8 => ?_) (fun c8 => ?_)
      · have hf := it_t hf c8
        refine lv_aload_n hx hb dX10_fell_35 rfl (lv_at hl 0 rfl) ?_
        obtain ⟨s10, h9, hf⟩ := br_s hf
        refine cVWv (As := []) (rest := []) X G kc_X10_431 (tX10_keepsAct l E st _ hL   h9) (rcv X G (hL 500 rfl) (cO10 rfl) rfl) rfl rfl (rmk_le (by omega) (by decide)) rfl hl.1 rfl (Nat.le_of_ble_eq_true rfl) dX10_fell_36 ⟨Nat.zero_le _, Nat.zero_le _⟩ (fun H locs G => ?_)
        refine lv_aload_n hx hb dX10_fell_39 rfl (lv_at hl 0 rfl) ?_
        refine gf10 X G (hL 500 rfl) rfl 3 (by decide) rfl kf_X10_16 iwX10 dX10_fell_40 ?_
        refine lv_iload_n hx hb dX10_fell_43 rfl (lv_at hl 1 rfl) ?_
        refine lv_dup2_11 hx hb dX10_fell_44 rfl rfl ?_
        obtain ⟨h11, hf⟩ := gd_s hf
        refine ia_ld (k := 504) (n := 8) X G (hL 504 rfl) rfl (by decide) (ix_in h11) dX10_fell_45 ?_
        refine lv_iload_n hx hb dX10_fell_46 rfl (lv_at hl 2 rfl) ?_
        refine lv_iadd hx hb dX10_fell_47 ?_
        obtain ⟨h12, hf⟩ := gd_s hf
        refine ia_st (k := 504) (n := 8) X G (hL 504 rfl) rfl (by decide) (ix_in h12) dX10_fell_48 (fun s13 es13 H locs G => ?_)
        have hf := nm_s hf s13 es13
        refine lv_aload_n hx hb dX10_fell_49 rfl (lv_at hl 0 rfl) ?_
        refine gf10 X G (hL 500 rfl) rfl 3 (by decide) rfl kf_X10_16 iwX10 dX10_fell_50 ?_
        refine lv_iload_n hx hb dX10_fell_53 rfl (lv_at hl 1 rfl) ?_
        obtain ⟨h14, hf⟩ := gd_s hf
        refine ia_ld (k := 504) (n := 8) X G (hL 504 rfl) rfl (by decide) (ix_in h14) dX10_fell_54 ?_
        exact rtWi X hlk G hr (so_i hf) dX10_fell_55
      · have hf := it_f hf c8
        refine lv_iconst (v := (-1 : Int32)) hx hb dX10_fell_33 (by decide) ?_
        exact rtWi X hlk G hr (so_i hf) dX10_fell_34
def fX10_held (p1 : Int32) : Option Int32 := if p1 ≤ (999 : Int32) then (some p1) else (some (999 : Int32))
set_option maxRecDepth 100000 in
theorem tX10_held (l : Launch) (E : Ev) (st : St) (sz : Nat) (p1 : Int32) {res : Int32} (hf : fX10_held  p1 = some res) : Met l yX10_held (.code yX10_held cX10_held 1 (some .int) :: uW) (rmk 0) (va_Pc [.int p1] (Pre E st sz)) (QRi res) 0 0 (NoF) := by
  refine Met_in (by decide) (Nat.le_of_ble_eq_true rfl) ?_
  intro p e s m below meth c X hr hlk hz G ls hl
  have hx := X.1.1
  have hb := X.1.2.1
  have hl : lv_has ls 1 [(0, .int p1)] := hl
  unfold fX10_held at hf
  refine lv_iload_n hx hb dX10_held_0 rfl (lv_at hl 0 rfl) ?_
  refine lv_sipush (v := (999 : Int32)) hx hb dX10_held_1 (by decide) ?_
  refine lv_icmp_le (tgt := 13) hx hb dX10_held_4 (by decide) (fun c1 => ?_) (fun c1 => ?_)
  · have hf := it_t hf c1
    refine lv_iload_n hx hb dX10_held_13 rfl (lv_at hl 0 rfl) ?_
    exact rtRi X hlk hr (so_i hf) dX10_held_14
  · have hf := it_f hf c1
    refine lv_sipush (v := (999 : Int32)) hx hb dX10_held_7 (by decide) ?_
    refine lv_goto (tgt := 14) hx hb dX10_held_10 (by decide) ?_
    exact rtRi X hlk hr (so_i hf) dX10_held_14
def fX10_lends (p1 : Int32) (p2 : Int32) (p3 : Int32) (st : St) : Option St := gd (ix p1 8) (gd (ix p1 8) (nm (ui st 503 p1.toNatClampNeg ((st.1 503 p1.toNatClampNeg) - p3)) (fun s3 => gd (ix p2 8) (br (fX10_held ((s3.1 503 p2.toNatClampNeg) + p3)) (fun x6 => gd (ix p2 8) (nm (ui s3 503 p2.toNatClampNeg x6) (fun s8 => br (fX10_isFrozen s8 p2) (fun x10 => if x10 = 0 then (some s8) else (gd (ix p2 8) (if (s8.1 503 p2.toNatClampNeg) < (s8.1 502 2) then (some s8) else (nm (ui s8 502 7 ((s8.1 502 7) &&& (((1 : Int32) <<< (p2 &&& 31)) ^^^ (-1 : Int32)))) (fun s17 => some s17))))))))))))
set_option maxRecDepth 100000 in
theorem tX10_lends (l : Launch) (E : Ev) (st : St) (sz : Nat) (hL : ∀ k, fxM k = true → k ∈ eL E) (p1 : Int32) (p2 : Int32) (p3 : Int32) {res : St} (hf : fX10_lends  p1 p2 p3 st = some res) : Met l yX10_lends (.code yX10_lends cX10_lends 4 none :: uW) (rmk 2) (va_Pc [.ref (eq E 500), .int p1, .int p2, .int p3] (Pre E st sz)) (QWv E res sz) 0 0 (Af E sz) := by
  refine Met_in (by decide) (Nat.le_of_ble_eq_true rfl) ?_
  intro p e s m below meth c X hr hlk hz G ls hl
  have hx := X.1.1
  have hb := X.1.2.1
  have hl : lv_has ls 4 [(0, .ref (eq E 500)), (1, .int p1), (2, .int p2), (3, .int p3)] := hl
  unfold fX10_lends at hf
  refine lv_aload_n hx hb dX10_lends_0 rfl (lv_at hl 0 rfl) ?_
  refine gf10 X G (hL 500 rfl) rfl 2 (by decide) rfl kf_X10_13 iwX10 dX10_lends_1 ?_
  refine lv_iload_n hx hb dX10_lends_4 rfl (lv_at hl 1 rfl) ?_
  refine lv_dup2_11 hx hb dX10_lends_5 rfl rfl ?_
  obtain ⟨h1, hf⟩ := gd_s hf
  refine ia_ld (k := 503) (n := 8) X G (hL 503 rfl) rfl (by decide) (ix_in h1) dX10_lends_6 ?_
  refine lv_iload_n hx hb dX10_lends_7 rfl (lv_at hl 3 rfl) ?_
  refine lv_isub hx hb dX10_lends_8 ?_
  obtain ⟨h2, hf⟩ := gd_s hf
  refine ia_st (k := 503) (n := 8) X G (hL 503 rfl) rfl (by decide) (ix_in h2) dX10_lends_9 (fun s3 es3 H locs G => ?_)
  have hf := nm_s hf s3 es3
  refine lv_aload_n hx hb dX10_lends_10 rfl (lv_at hl 0 rfl) ?_
  refine gf10 X G (hL 500 rfl) rfl 2 (by decide) rfl kf_X10_13 iwX10 dX10_lends_11 ?_
  refine lv_iload_n hx hb dX10_lends_14 rfl (lv_at hl 2 rfl) ?_
  refine lv_aload_n hx hb dX10_lends_15 rfl (lv_at hl 0 rfl) ?_
  refine gf10 X G (hL 500 rfl) rfl 2 (by decide) rfl kf_X10_13 iwX10 dX10_lends_16 ?_
  refine lv_iload_n hx hb dX10_lends_19 rfl (lv_at hl 2 rfl) ?_
  obtain ⟨h4, hf⟩ := gd_s hf
  refine ia_ld (k := 503) (n := 8) X G (hL 503 rfl) rfl (by decide) (ix_in h4) dX10_lends_20 ?_
  refine lv_iload_n hx hb dX10_lends_21 rfl (lv_at hl 3 rfl) ?_
  refine lv_iadd hx hb dX10_lends_22 ?_
  obtain ⟨x6, h5, hf⟩ := br_s hf
  refine cSRi (As := [.int ((s3.1 503 p2.toNatClampNeg) + p3)]) (rest := [.int p2, .ref (eq E 503)]) X G kc_X10_436 (tX10_held l E s3 _  ((s3.1 503 p2.toNatClampNeg) + p3) h5) rfl rfl (rmk_le (by omega) (by decide)) rfl hl.1 rfl (Nat.le_of_ble_eq_true rfl) dX10_lends_23 ⟨Nat.zero_le _, Nat.zero_le _⟩ ?_
  obtain ⟨h7, hf⟩ := gd_s hf
  refine ia_st (k := 503) (n := 8) X G (hL 503 rfl) rfl (by decide) (ix_in h7) dX10_lends_26 (fun s8 es8 H locs G => ?_)
  have hf := nm_s hf s8 es8
  refine lv_aload_n hx hb dX10_lends_27 rfl (lv_at hl 0 rfl) ?_
  refine lv_iload_n hx hb dX10_lends_28 rfl (lv_at hl 2 rfl) ?_
  obtain ⟨x10, h9, hf⟩ := br_s hf
  refine cVRi (As := [.int p2]) (rest := []) X G kc_X10_371 (tX10_isFrozen l E s8 _ hL  p2 h9) (rcv X G (hL 500 rfl) (cO10 rfl) rfl) rfl rfl (rmk_le (by omega) (by decide)) rfl hl.1 rfl (Nat.le_of_ble_eq_true rfl) dX10_lends_29 ⟨Nat.zero_le _, Nat.zero_le _⟩ ?_
  refine lv_if_eq (tgt := 65) hx hb dX10_lends_32 (by decide) (fun c11 => ?_) (fun c11 => ?_)
  · have hf := it_t hf c11
    exact rtWv X hlk G hr (so_i hf) dX10_lends_65
  · have hf := it_f hf c11
    refine lv_aload_n hx hb dX10_lends_35 rfl (lv_at hl 0 rfl) ?_
    refine gf10 X G (hL 500 rfl) rfl 2 (by decide) rfl kf_X10_13 iwX10 dX10_lends_36 ?_
    refine lv_iload_n hx hb dX10_lends_39 rfl (lv_at hl 2 rfl) ?_
    obtain ⟨h12, hf⟩ := gd_s hf
    refine ia_ld (k := 503) (n := 8) X G (hL 503 rfl) rfl (by decide) (ix_in h12) dX10_lends_40 ?_
    refine lv_aload_n hx hb dX10_lends_41 rfl (lv_at hl 0 rfl) ?_
    refine gf10 X G (hL 500 rfl) rfl 1 (by decide) rfl kf_X10_9 iwX10 dX10_lends_42 ?_
    refine lv_iconst (v := (2 : Int32)) hx hb dX10_lends_45 (by decide) ?_
    refine ia_ldc (k := 502) (n := 12) X G (hL 502 rfl) rfl (by decide) 2 (by decide) dX10_lends_46 ?_
    refine lv_icmp_lt (tgt := 65) hx hb dX10_lends_47 (by decide) (fun c14 => ?_) (fun c14 => ?_)
    · have hf := it_t hf c14
      exact rtWv X hlk G hr (so_i hf) dX10_lends_65
    · have hf := it_f hf c14
      refine lv_aload_n hx hb dX10_lends_50 rfl (lv_at hl 0 rfl) ?_
      refine gf10 X G (hL 500 rfl) rfl 1 (by decide) rfl kf_X10_9 iwX10 dX10_lends_51 ?_
      refine lv_bipush (v := (7 : Int32)) hx hb dX10_lends_54 (by decide) ?_
      refine lv_dup2_11 hx hb dX10_lends_56 rfl rfl ?_
      refine ia_ldc (k := 502) (n := 12) X G (hL 502 rfl) rfl (by decide) 7 (by decide) dX10_lends_57 ?_
      refine lv_iconst (v := (1 : Int32)) hx hb dX10_lends_58 (by decide) ?_
      refine lv_iload_n hx hb dX10_lends_59 rfl (lv_at hl 2 rfl) ?_
      refine lv_ishl hx hb dX10_lends_60 ?_
      refine lv_iconst (v := (-1 : Int32)) hx hb dX10_lends_61 (by decide) ?_
      refine lv_ixor hx hb dX10_lends_62 ?_
      refine lv_iand hx hb dX10_lends_63 ?_
      refine ia_stc (k := 502) (n := 12) X G (hL 502 rfl) rfl (by decide) 7 (by decide) dX10_lends_64 (fun s17 es17 H locs G => ?_)
      have hf := nm_s hf s17 es17
      exact rtWv X hlk G hr (so_i hf) dX10_lends_65
def fX10_lend (p1 : Int32) (p2 : Int32) (p3 : Int32) (st : St) : Option (Int32 × St) := br (fX10_isHouse st p1) (fun x2 => if x2 = 0 then (some ((-1 : Int32), st)) else (br (fX10_isHouse st p2) (fun x5 => if x5 = 0 then (some ((-1 : Int32), st)) else (br (fX10_isFrozen st p1) (fun x8 => if x8 = 0 then (gd (ix p1 8) (br (fX10_has (st.1 507 p1.toNatClampNeg) p2) (fun x12 => if x12 = 0 then (some ((-1 : Int32), st)) else (gd (ix p1 8) (br (fX10_in (Int32.toInt64 p3) (1 : Int64) (Int32.toInt64 (st.1 503 p1.toNatClampNeg))) (fun x16 => if x16 = 0 then (some ((-1 : Int32), st)) else (br (fX10_keepsAct st) (fun s19 => br (fX10_lends p1 p2 p3 s19) (fun s21 => gd (ix p2 8) (some ((s21.1 503 p2.toNatClampNeg), s21))))))))))) else (some ((-1 : Int32), st)))))))
set_option maxRecDepth 100000 in
theorem tX10_lend (l : Launch) (E : Ev) (st : St) (sz : Nat) (hL : ∀ k, fxM k = true → k ∈ eL E) (p1 : Int32) (p2 : Int32) (p3 : Int32) {res : (Int32 × St)} (hf : fX10_lend  p1 p2 p3 st = some res) : Met l yX10_lend (.code yX10_lend cX10_lend 4 (some .int) :: uW) (rmk 4) (va_Pc [.ref (eq E 500), .int p1, .int p2, .int p3] (Pre E st sz)) (QWi E res.2 sz res.1) 0 0 (Af E sz) := by
  refine Met_in (by decide) (Nat.le_of_ble_eq_true rfl) ?_
  intro p e s m below meth c X hr hlk hz G ls hl
  have hx := X.1.1
  have hb := X.1.2.1
  have hl : lv_has ls 4 [(0, .ref (eq E 500)), (1, .int p1), (2, .int p2), (3, .int p3)] := hl
  unfold fX10_lend at hf
  refine lv_aload_n hx hb dX10_lend_0 rfl (lv_at hl 0 rfl) ?_
  refine lv_iload_n hx hb dX10_lend_1 rfl (lv_at hl 1 rfl) ?_
  obtain ⟨x2, h1, hf⟩ := br_s hf
  refine cVRi (As := [.int p1]) (rest := []) X G kc_X10_367 (tX10_isHouse l E st _ hL  p1 h1) (rcv X G (hL 500 rfl) (cO10 rfl) rfl) rfl rfl (rmk_le (by omega) (by decide)) rfl hl.1 rfl (Nat.le_of_ble_eq_true rfl) dX10_lend_2 ⟨Nat.zero_le _, Nat.zero_le _⟩ ?_
  refine lv_if_eq (tgt := 53) hx hb dX10_lend_5 (by decide) (fun c3 => ?_) (fun c3 => ?_)
  · have hf := it_t hf c3
    refine lv_iconst (v := (-1 : Int32)) hx hb dX10_lend_53 (by decide) ?_
    exact rtWi X hlk G hr (so_i hf) dX10_lend_54
  · have hf := it_f hf c3
    refine lv_aload_n hx hb dX10_lend_8 rfl (lv_at hl 0 rfl) ?_
    refine lv_iload_n hx hb dX10_lend_9 rfl (lv_at hl 2 rfl) ?_
    obtain ⟨x5, h4, hf⟩ := br_s hf
    refine cVRi (As := [.int p2]) (rest := []) X G kc_X10_367 (tX10_isHouse l E st _ hL  p2 h4) (rcv X G (hL 500 rfl) (cO10 rfl) rfl) rfl rfl (rmk_le (by omega) (by decide)) rfl hl.1 rfl (Nat.le_of_ble_eq_true rfl) dX10_lend_10 ⟨Nat.zero_le _, Nat.zero_le _⟩ ?_
    refine lv_if_eq (tgt := 53) hx hb dX10_lend_13 (by decide) (fun c6 => ?_) (fun c6 => ?_)
    · have hf := it_t hf c6
      refine lv_iconst (v := (-1 : Int32)) hx hb dX10_lend_53 (by decide) ?_
      exact rtWi X hlk G hr (so_i hf) dX10_lend_54
    · have hf := it_f hf c6
      refine lv_aload_n hx hb dX10_lend_16 rfl (lv_at hl 0 rfl) ?_
      refine lv_iload_n hx hb dX10_lend_17 rfl (lv_at hl 1 rfl) ?_
      obtain ⟨x8, h7, hf⟩ := br_s hf
      refine cVRi (As := [.int p1]) (rest := []) X G kc_X10_371 (tX10_isFrozen l E st _ hL  p1 h7) (rcv X G (hL 500 rfl) (cO10 rfl) rfl) rfl rfl (rmk_le (by omega) (by decide)) rfl hl.1 rfl (Nat.le_of_ble_eq_true rfl) dX10_lend_18 ⟨Nat.zero_le _, Nat.zero_le _⟩ ?_
      refine lv_if_ne (tgt := 53) hx hb dX10_lend_21 (by decide) (fun c9 => ?_) (fun c9 => ?_)
      · have hf := it_f hf c9
        refine lv_iconst (v := (-1 : Int32)) hx hb dX10_lend_53 (by decide) ?_
        exact rtWi X hlk G hr (so_i hf) dX10_lend_54
      · have hf := it_t hf c9
        refine lv_aload_n hx hb dX10_lend_24 rfl (lv_at hl 0 rfl) ?_
        refine gf10 X G (hL 500 rfl) rfl 6 (by decide) rfl kf_X10_25 iwX10 dX10_lend_25 ?_
        refine lv_iload_n hx hb dX10_lend_28 rfl (lv_at hl 1 rfl) ?_
        obtain ⟨h10, hf⟩ := gd_s hf
        refine ia_ld (k := 507) (n := 8) X G (hL 507 rfl) rfl (by decide) (ix_in h10) dX10_lend_29 ?_
        refine lv_iload_n hx hb dX10_lend_30 rfl (lv_at hl 2 rfl) ?_
        obtain ⟨x12, h11, hf⟩ := br_s hf
        refine cSRi (As := [.int (st.1 507 p1.toNatClampNeg), .int p2]) (rest := []) X G kc_X10_156 (tX10_has l E st _  (st.1 507 p1.toNatClampNeg) p2 h11) rfl rfl (rmk_le (by omega) (by decide)) rfl hl.1 rfl (Nat.le_of_ble_eq_true rfl) dX10_lend_31 ⟨Nat.zero_le _, Nat.zero_le _⟩ ?_
        refine lv_if_eq (tgt := 53) hx hb dX10_lend_34 (by decide) (fun c13 => ?_) (fun c13 => ?_)
        · have hf := it_t hf c13
          refine lv_iconst (v := (-1 : Int32)) hx hb dX10_lend_53 (by decide) ?_
          exact rtWi X hlk G hr (so_i hf) dX10_lend_54
        · have hf := it_f hf c13
          refine lv_iload_n hx hb dX10_lend_37 rfl (lv_at hl 3 rfl) ?_
          refine lv_i2l hx hb dX10_lend_38 rfl ?_
          refine lv_lconst (v := (1 : Int64)) hx hb dX10_lend_39 (by decide) ?_
          refine lv_aload_n hx hb dX10_lend_40 rfl (lv_at hl 0 rfl) ?_
          refine gf10 X G (hL 500 rfl) rfl 2 (by decide) rfl kf_X10_13 iwX10 dX10_lend_41 ?_
          refine lv_iload_n hx hb dX10_lend_44 rfl (lv_at hl 1 rfl) ?_
          obtain ⟨h14, hf⟩ := gd_s hf
          refine ia_ld (k := 503) (n := 8) X G (hL 503 rfl) rfl (by decide) (ix_in h14) dX10_lend_45 ?_
          refine lv_i2l hx hb dX10_lend_46 rfl ?_
          obtain ⟨x16, h15, hf⟩ := br_s hf
          refine cSRi (As := [.long (Int32.toInt64 p3), .long (1 : Int64), .long (Int32.toInt64 (st.1 503 p1.toNatClampNeg))]) (rest := []) X G kc_X10_152 (tX10_in l E st _  (Int32.toInt64 p3) (1 : Int64) (Int32.toInt64 (st.1 503 p1.toNatClampNeg)) h15) rfl rfl (rmk_le (by omega) (by decide)) rfl hl.1 rfl (Nat.le_of_ble_eq_true rfl) dX10_lend_47 ⟨Nat.zero_le _, Nat.zero_le _⟩ ?_
          refine lv_if_ne (tgt := 55) hx hb dX10_lend_50 (by decide) (fun c17 => ?_) (fun c17 => ?_)
          · have hf := it_f hf c17
            refine lv_aload_n hx hb dX10_lend_55 rfl (lv_at hl 0 rfl) ?_
            obtain ⟨s19, h18, hf⟩ := br_s hf
            refine cVWv (As := []) (rest := []) X G kc_X10_431 (tX10_keepsAct l E st _ hL   h18) (rcv X G (hL 500 rfl) (cO10 rfl) rfl) rfl rfl (rmk_le (by omega) (by decide)) rfl hl.1 rfl (Nat.le_of_ble_eq_true rfl) dX10_lend_56 ⟨Nat.zero_le _, Nat.zero_le _⟩ (fun H locs G => ?_)
            refine lv_aload_n hx hb dX10_lend_59 rfl (lv_at hl 0 rfl) ?_
            refine lv_iload_n hx hb dX10_lend_60 rfl (lv_at hl 1 rfl) ?_
            refine lv_iload_n hx hb dX10_lend_61 rfl (lv_at hl 2 rfl) ?_
            refine lv_iload_n hx hb dX10_lend_62 rfl (lv_at hl 3 rfl) ?_
            obtain ⟨s21, h20, hf⟩ := br_s hf
            refine cVWv (As := [.int p1, .int p2, .int p3]) (rest := []) X G kc_X10_439 (tX10_lends l E s19 _ hL  p1 p2 p3 h20) (rcv X G (hL 500 rfl) (cO10 rfl) rfl) rfl rfl (rmk_le (by omega) (by decide)) rfl hl.1 rfl (Nat.le_of_ble_eq_true rfl) dX10_lend_63 ⟨Nat.zero_le _, Nat.zero_le _⟩ (fun H locs G => ?_)
            refine lv_aload_n hx hb dX10_lend_66 rfl (lv_at hl 0 rfl) ?_
            refine gf10 X G (hL 500 rfl) rfl 2 (by decide) rfl kf_X10_13 iwX10 dX10_lend_67 ?_
            refine lv_iload_n hx hb dX10_lend_70 rfl (lv_at hl 2 rfl) ?_
            obtain ⟨h22, hf⟩ := gd_s hf
            refine ia_ld (k := 503) (n := 8) X G (hL 503 rfl) rfl (by decide) (ix_in h22) dX10_lend_71 ?_
            exact rtWi X hlk G hr (so_i hf) dX10_lend_72
          · have hf := it_t hf c17
            refine lv_iconst (v := (-1 : Int32)) hx hb dX10_lend_53 (by decide) ?_
            exact rtWi X hlk G hr (so_i hf) dX10_lend_54
